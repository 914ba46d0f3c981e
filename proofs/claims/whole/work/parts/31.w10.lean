set_option maxHeartbeats 4000000 in
set_option maxRecDepth 100000 in
theorem sg_X10_back_0 {g : ev_G} {S : ev_S} {Q : ev_O → ev_S → Prop} (a : Nat) (x0 : Int32) (hQ : ev_E g m_X10_back 1 0 2 [some (ev_o 10 a), some (ev_i x0), some (ev_i 0)] [] S Q) : ev_Cv g m_X10_back 1 0 [ev_o 10 a, ev_i x0] S Q := by
  refine ev_enter (by decide) rfl rfl (Nat.le_of_ble_eq_true rfl) ?_
  show ev_E g m_X10_back 1 0 0 [some (ev_o 10 a), some (ev_i x0), none] [] S Q
  refine ev_iconst (0) dX10_back_0 rfl ?_
  refine ev_istore_n dX10_back_1 (Nat.le_of_ble_eq_true rfl) (ev_hw rfl) ?_
  show ev_E g m_X10_back 1 0 2 [some (ev_o 10 a), some (ev_i x0), some (ev_i 0)] [] S Q
  exact hQ
set_option maxHeartbeats 4000000 in
set_option maxRecDepth 100000 in
theorem sg_X10_back_2 {g : ev_G} {S : ev_S} {Q : ev_O → ev_S → Prop} (a : Nat) (u1 : Int32) (u2 : Int32) (hQ : (2091 ≤ u2 → (
    ∀ S1 : ev_S, S1 = (ev_up S a 8 (-1)) → (
      Q (.inl (some (ev_i u1))) S1))) ∧
  (¬ (2091 ≤ u2) → (
    (vp_in u2 2091) ∧ (
      ∀ S2 : ev_S, S2 = (ev_up S (a + 1) u2.toNatClampNeg (S.1 (a + 2) u2.toNatClampNeg)) → (
        ev_E g m_X10_back 1 0 2 [some (ev_o 10 a), some (ev_i u1), some (ev_i (u2 + 1))] [] S2 Q))))) : ev_E g m_X10_back 1 0 2 [some (ev_o 10 a), some (ev_i u1), some (ev_i u2)] [] S Q := by
  refine ev_iload_n (u2) dX10_back_2 rfl ?_
  refine ev_sipush (2091) dX10_back_3 (by decide) ?_
  refine ev_icmp_ge 27 dX10_back_6 (by decide) (fun c1 => ?_) (fun c1 => ?_)
  · replace hQ := hQ.1 c1
    refine ev_aload_n (ev_o 10 a) dX10_back_27 rfl rfl ?_
    refine ev_iconst (-1) dX10_back_28 rfl ?_
    refine pf_10_8 dX10_back_29 kw_1861 ?_
    refine ev_sub hQ (fun S1 hS1 hQ => ?_)
    refine ev_E.goal (pc' := 32) (L' := [some (ev_o 10 a), some (ev_i u1), some (ev_i u2)]) (K' := []) (S' := S1) ?_ rfl rfl rfl hS1
    refine ev_iload_n (u1) dX10_back_32 rfl ?_
    exact ev_ireturn .int dX10_back_33 rfl rfl hQ
  · replace hQ := hQ.2 c1
    refine ev_aload_n (ev_o 10 a) dX10_back_9 rfl rfl ?_
    refine gf_10_0 dX10_back_10 kw_1853 ?_
    refine ev_iload_n (u2) dX10_back_13 rfl ?_
    refine ev_aload_n (ev_o 10 a) dX10_back_14 rfl rfl ?_
    refine gf_10_1 dX10_back_15 kw_1854 ?_
    refine ev_iload_n (u2) dX10_back_18 rfl ?_
    obtain ⟨h1, hQ⟩ := hQ
    refine ev_iaload dX10_back_19 h1 ?_
    refine ev_iastore dX10_back_20 h1 ?_
    refine ev_sub hQ (fun S2 hS2 hQ => ?_)
    refine ev_E.goal (pc' := 21) (L' := [some (ev_o 10 a), some (ev_i u1), some (ev_i u2)]) (K' := []) (S' := S2) ?_ rfl rfl rfl hS2
    refine ev_iinc u2 (1) dX10_back_21 rfl (by decide) (ev_hw rfl) ?_
    show ev_E g m_X10_back 1 0 24 [some (ev_o 10 a), some (ev_i u1), some (ev_i (u2 + 1))] [] S2 Q
    refine ev_goto 2 dX10_back_24 (by decide) ?_
    exact hQ
set_option maxHeartbeats 4000000 in
set_option maxRecDepth 100000 in
theorem sg_X10_feeds_0 {g : ev_G} {S : ev_S} {Q : ev_O → ev_S → Prop} (a : Nat) (x0 : Int32) (hQ : ev_E g m_X10_feeds 1 0 3 [some (ev_o 10 a), some (ev_i x0), some (ev_i 24), none] [] S Q) : ev_Cv g m_X10_feeds 1 0 [ev_o 10 a, ev_i x0] S Q := by
  refine ev_enter (by decide) rfl rfl (Nat.le_of_ble_eq_true rfl) ?_
  show ev_E g m_X10_feeds 1 0 0 [some (ev_o 10 a), some (ev_i x0), none, none] [] S Q
  refine ev_bipush (24) dX10_feeds_0 (by decide) ?_
  refine ev_istore_n dX10_feeds_2 (Nat.le_of_ble_eq_true rfl) (ev_hw rfl) ?_
  show ev_E g m_X10_feeds 1 0 3 [some (ev_o 10 a), some (ev_i x0), some (ev_i 24), none] [] S Q
  exact hQ
set_option maxHeartbeats 4000000 in
set_option maxRecDepth 100000 in
theorem sg_X10_feeds_3 {g : ev_G} {S : ev_S} {Q : ev_O → ev_S → Prop} (a : Nat) (u1 : Int32) (u2 : Int32) (hQ : (u2 < 0 → (
    Q (.inl none) S)) ∧
  (¬ (u2 < 0) → (
    (((j_ishr u1 u2) &&& 255) = 0 → (
      ev_E g m_X10_feeds 1 0 3 [some (ev_o 10 a), some (ev_i u1), some (ev_i (u2 + (-8))), none] [] S Q)) ∧
    (¬ (((j_ishr u1 u2) &&& 255) = 0) → (
      (800 ≤ (S.1 a 10) → (
        ∀ S1 : ev_S, S1 = (ev_up S a 10 ((S.1 a 10) + 1)) → (
          ev_E g m_X10_feeds 1 0 3 [some (ev_o 10 a), some (ev_i u1), some (ev_i (u2 + (-8))), none] [] S1 Q))) ∧
      (¬ (800 ≤ (S.1 a 10)) → (
        (vp_in (S.1 a 10) 800) ∧ (
          ∀ S2 : ev_S, S2 = (ev_up S (a + 7) (S.1 a 10).toNatClampNeg ((j_ishr u1 u2) &&& 255)) → (
            ∀ S3 : ev_S, S3 = (ev_up S2 a 10 ((S.1 a 10) + 1)) → (
              ev_E g m_X10_feeds 1 0 3 [some (ev_o 10 a), some (ev_i u1), some (ev_i (u2 + (-8))), none] [] S3 Q)))))))))) : ev_E g m_X10_feeds 1 0 3 [some (ev_o 10 a), some (ev_i u1), some (ev_i u2), none] [] S Q := by
  refine ev_iload_n (u2) dX10_feeds_3 rfl ?_
  refine ev_if_lt 58 dX10_feeds_4 (by decide) (fun c1 => ?_) (fun c1 => ?_)
  · replace hQ := hQ.1 c1
    exact ev_return dX10_feeds_58 rfl hQ
  · replace hQ := hQ.2 c1
    refine ev_iload_n (u1) dX10_feeds_7 rfl ?_
    refine ev_iload_n (u2) dX10_feeds_8 rfl ?_
    refine ev_ishr dX10_feeds_9 ?_
    show ev_E g m_X10_feeds 1 0 10 [some (ev_o 10 a), some (ev_i u1), some (ev_i u2), none] [ev_i (j_ishr u1 u2)] S Q
    refine ev_sipush (255) dX10_feeds_10 (by decide) ?_
    refine ev_iand dX10_feeds_13 ?_
    refine ev_istore_n dX10_feeds_14 (Nat.le_of_ble_eq_true rfl) (ev_hw rfl) ?_
    show ev_E g m_X10_feeds 1 0 15 [some (ev_o 10 a), some (ev_i u1), some (ev_i u2), some (ev_i ((j_ishr u1 u2) &&& 255))] [] S Q
    refine ev_iload_n (((j_ishr u1 u2) &&& 255)) dX10_feeds_15 rfl ?_
    refine ev_if_ne 22 dX10_feeds_16 (by decide) (fun c2 => ?_) (fun c2 => ?_)
    · replace hQ := hQ.2 c2
      refine ev_aload_n (ev_o 10 a) dX10_feeds_22 rfl rfl ?_
      refine gf_10_10 dX10_feeds_23 kw_1863 ?_
      refine ev_sipush (800) dX10_feeds_26 (by decide) ?_
      refine ev_icmp_ge 42 dX10_feeds_29 (by decide) (fun c3 => ?_) (fun c3 => ?_)
      · replace hQ := hQ.1 c3
        refine ev_aload_n (ev_o 10 a) dX10_feeds_42 rfl rfl ?_
        refine ev_dup dX10_feeds_43 rfl ?_
        refine gf_10_10 dX10_feeds_44 kw_1863 ?_
        refine ev_iconst (1) dX10_feeds_47 rfl ?_
        refine ev_iadd dX10_feeds_48 ?_
        refine pf_10_10 dX10_feeds_49 kw_1863 ?_
        refine ev_sub hQ (fun S1 hS1 hQ => ?_)
        refine ev_E.goal (pc' := 52) (L' := [some (ev_o 10 a), some (ev_i u1), some (ev_i u2), some (ev_i ((j_ishr u1 u2) &&& 255))]) (K' := []) (S' := S1) ?_ rfl rfl rfl hS1
        refine ev_iinc u2 (-8) dX10_feeds_52 rfl (by decide) (ev_hw rfl) ?_
        show ev_E g m_X10_feeds 1 0 55 [some (ev_o 10 a), some (ev_i u1), some (ev_i (u2 + (-8))), some (ev_i ((j_ishr u1 u2) &&& 255))] [] S1 Q
        refine ev_goto 3 dX10_feeds_55 (by decide) ?_
        refine ev_fgm [true, true, true, false] ?_
        exact hQ
      · replace hQ := hQ.2 c3
        refine ev_aload_n (ev_o 10 a) dX10_feeds_32 rfl rfl ?_
        refine gf_10_9 dX10_feeds_33 kw_1862 ?_
        refine ev_aload_n (ev_o 10 a) dX10_feeds_36 rfl rfl ?_
        refine gf_10_10 dX10_feeds_37 kw_1863 ?_
        refine ev_iload_n (((j_ishr u1 u2) &&& 255)) dX10_feeds_40 rfl ?_
        obtain ⟨h1, hQ⟩ := hQ
        refine ev_iastore dX10_feeds_41 h1 ?_
        refine ev_sub hQ (fun S2 hS2 hQ => ?_)
        refine ev_E.goal (pc' := 42) (L' := [some (ev_o 10 a), some (ev_i u1), some (ev_i u2), some (ev_i ((j_ishr u1 u2) &&& 255))]) (K' := []) (S' := S2) ?_ rfl rfl rfl hS2
        refine ev_aload_n (ev_o 10 a) dX10_feeds_42 rfl rfl ?_
        refine ev_dup dX10_feeds_43 rfl ?_
        refine gf_10_10 dX10_feeds_44 kw_1863 ?_
        refine ev_ke (j_rk hS2 (Or.inl (by omega))) ?_
        refine ev_iconst (1) dX10_feeds_47 rfl ?_
        refine ev_iadd dX10_feeds_48 ?_
        refine pf_10_10 dX10_feeds_49 kw_1863 ?_
        refine ev_sub hQ (fun S3 hS3 hQ => ?_)
        refine ev_E.goal (pc' := 52) (L' := [some (ev_o 10 a), some (ev_i u1), some (ev_i u2), some (ev_i ((j_ishr u1 u2) &&& 255))]) (K' := []) (S' := S3) ?_ rfl rfl rfl hS3
        refine ev_iinc u2 (-8) dX10_feeds_52 rfl (by decide) (ev_hw rfl) ?_
        show ev_E g m_X10_feeds 1 0 55 [some (ev_o 10 a), some (ev_i u1), some (ev_i (u2 + (-8))), some (ev_i ((j_ishr u1 u2) &&& 255))] [] S3 Q
        refine ev_goto 3 dX10_feeds_55 (by decide) ?_
        refine ev_fgm [true, true, true, false] ?_
        exact hQ
    · replace hQ := hQ.1 c2
      refine ev_goto 52 dX10_feeds_19 (by decide) ?_
      refine ev_iinc u2 (-8) dX10_feeds_52 rfl (by decide) (ev_hw rfl) ?_
      show ev_E g m_X10_feeds 1 0 55 [some (ev_o 10 a), some (ev_i u1), some (ev_i (u2 + (-8))), some (ev_i ((j_ishr u1 u2) &&& 255))] [] S Q
      refine ev_goto 3 dX10_feeds_55 (by decide) ?_
      refine ev_fgm [true, true, true, false] ?_
      exact hQ
set_option maxHeartbeats 4000000 in
set_option maxRecDepth 100000 in
theorem sg_X10_append_0 {g : ev_G} {S : ev_S} {Q : ev_O → ev_S → Prop} (a : Nat) (x0 : Int32) (x1 : Int32) (x2 : Int32) (x3 : Int32) (x4 : Int32) (hQ : ∀ S1 : ev_S, S1 = (ev_up S a 7 0) → (
    ev_Cv g m_X10_feeds 1 0 [ev_o 10 a, ev_i x0] S1 (fun o S2 => o = .inl none ∧ (
      ev_Cv g m_X10_feeds 1 0 [ev_o 10 a, ev_i x1] S2 (fun o S3 => o = .inl none ∧ (
        ev_Cv g m_X10_feeds 1 0 [ev_o 10 a, ev_i x2] S3 (fun o S4 => o = .inl none ∧ (
          ev_Cv g m_X10_feeds 1 0 [ev_o 10 a, ev_i x3] S4 (fun o S5 => o = .inl none ∧ (
            ev_Cv g m_X10_feeds 1 0 [ev_o 10 a, ev_i x4] S5 (fun o S6 => o = .inl none ∧ (
              (800 < (S6.1 a 10) → (
                ((S6.1 a 7) = 0 → (
                  ∀ S7 : ev_S, S7 = (ev_up S6 a 7 1) → (
                    ∀ S8 : ev_S, S8 = (ev_up S7 a 10 (S.1 a 10)) → (
                      Q (.inl (some (ev_i 0))) S8)))) ∧
                (¬ ((S6.1 a 7) = 0) → (
                  ∀ S9 : ev_S, S9 = (ev_up S6 a 10 (S.1 a 10)) → (
                    Q (.inl (some (ev_i 0))) S9))))) ∧
              (¬ (800 < (S6.1 a 10)) → (
                ((S6.1 a 7) = 0 → (
                  Q (.inl (some (ev_i (S6.1 a 10)))) S6)) ∧
                (¬ ((S6.1 a 7) = 0) → (
                  ∀ S10 : ev_S, S10 = (ev_up S6 a 10 (S.1 a 10)) → (
                    Q (.inl (some (ev_i 0))) S10))))))))))))))))) : ev_Cv g m_X10_append 2 0 [ev_o 10 a, ev_i x0, ev_i x1, ev_i x2, ev_i x3, ev_i x4] S Q := by
  refine ev_enter (by decide) rfl rfl (Nat.le_of_ble_eq_true rfl) ?_
  show ev_E g m_X10_append 2 0 0 [some (ev_o 10 a), some (ev_i x0), some (ev_i x1), some (ev_i x2), some (ev_i x3), some (ev_i x4), none] [] S Q
  refine ev_aload_n (ev_o 10 a) dX10_append_0 rfl rfl ?_
  refine ev_iconst (0) dX10_append_1 rfl ?_
  refine pf_10_7 dX10_append_2 kw_1860 ?_
  refine ev_sub hQ (fun S1 hS1 hQ => ?_)
  refine ev_E.goal (pc' := 5) (L' := [some (ev_o 10 a), some (ev_i x0), some (ev_i x1), some (ev_i x2), some (ev_i x3), some (ev_i x4), none]) (K' := []) (S' := S1) ?_ rfl rfl rfl hS1
  refine ev_aload_n (ev_o 10 a) dX10_append_5 rfl rfl ?_
  refine gf_10_10 dX10_append_6 kw_1863 ?_
  refine ev_ke (j_rk hS1 (Or.inr (by decide))) ?_
  refine ev_istore dX10_append_9 (Nat.le_of_ble_eq_true rfl) (ev_hw rfl) ?_
  show ev_E g m_X10_append 2 0 11 [some (ev_o 10 a), some (ev_i x0), some (ev_i x1), some (ev_i x2), some (ev_i x3), some (ev_i x4), some (ev_i (S.1 a 10))] [] S1 Q
  refine ev_aload_n (ev_o 10 a) dX10_append_11 rfl rfl ?_
  refine ev_iload_n (x0) dX10_append_12 rfl ?_
  refine ev_cV mv_X10_feeds 1 0 10 [ev_i x0] [] dX10_append_13 kw_1947 rfl (by decide) rfl (by decide) (by decide) (Nat.le_of_ble_eq_true rfl) hQ ?_ rfl
  rintro o S2 ⟨rfl, hQ⟩
  show ev_E g m_X10_append 2 0 16 [some (ev_o 10 a), some (ev_i x0), some (ev_i x1), some (ev_i x2), some (ev_i x3), some (ev_i x4), some (ev_i (S.1 a 10))] [] S2 Q
  refine ev_aload_n (ev_o 10 a) dX10_append_16 rfl rfl ?_
  refine ev_iload_n (x1) dX10_append_17 rfl ?_
  refine ev_cV mv_X10_feeds 1 0 10 [ev_i x1] [] dX10_append_18 kw_1947 rfl (by decide) rfl (by decide) (by decide) (Nat.le_of_ble_eq_true rfl) hQ ?_ rfl
  rintro o S3 ⟨rfl, hQ⟩
  show ev_E g m_X10_append 2 0 21 [some (ev_o 10 a), some (ev_i x0), some (ev_i x1), some (ev_i x2), some (ev_i x3), some (ev_i x4), some (ev_i (S.1 a 10))] [] S3 Q
  refine ev_aload_n (ev_o 10 a) dX10_append_21 rfl rfl ?_
  refine ev_iload_n (x2) dX10_append_22 rfl ?_
  refine ev_cV mv_X10_feeds 1 0 10 [ev_i x2] [] dX10_append_23 kw_1947 rfl (by decide) rfl (by decide) (by decide) (Nat.le_of_ble_eq_true rfl) hQ ?_ rfl
  rintro o S4 ⟨rfl, hQ⟩
  show ev_E g m_X10_append 2 0 26 [some (ev_o 10 a), some (ev_i x0), some (ev_i x1), some (ev_i x2), some (ev_i x3), some (ev_i x4), some (ev_i (S.1 a 10))] [] S4 Q
  refine ev_aload_n (ev_o 10 a) dX10_append_26 rfl rfl ?_
  refine ev_iload (x3) dX10_append_27 rfl ?_
  refine ev_cV mv_X10_feeds 1 0 10 [ev_i x3] [] dX10_append_29 kw_1947 rfl (by decide) rfl (by decide) (by decide) (Nat.le_of_ble_eq_true rfl) hQ ?_ rfl
  rintro o S5 ⟨rfl, hQ⟩
  show ev_E g m_X10_append 2 0 32 [some (ev_o 10 a), some (ev_i x0), some (ev_i x1), some (ev_i x2), some (ev_i x3), some (ev_i x4), some (ev_i (S.1 a 10))] [] S5 Q
  refine ev_aload_n (ev_o 10 a) dX10_append_32 rfl rfl ?_
  refine ev_iload (x4) dX10_append_33 rfl ?_
  refine ev_cV mv_X10_feeds 1 0 10 [ev_i x4] [] dX10_append_35 kw_1947 rfl (by decide) rfl (by decide) (by decide) (Nat.le_of_ble_eq_true rfl) hQ ?_ rfl
  rintro o S6 ⟨rfl, hQ⟩
  show ev_E g m_X10_append 2 0 38 [some (ev_o 10 a), some (ev_i x0), some (ev_i x1), some (ev_i x2), some (ev_i x3), some (ev_i x4), some (ev_i (S.1 a 10))] [] S6 Q
  refine ev_aload_n (ev_o 10 a) dX10_append_38 rfl rfl ?_
  refine ev_aload_n (ev_o 10 a) dX10_append_39 rfl rfl ?_
  refine gf_10_10 dX10_append_40 kw_1863 ?_
  refine ev_sipush (800) dX10_append_43 (by decide) ?_
  refine ev_icmp_gt 53 dX10_append_46 (by decide) (fun c1 => ?_) (fun c1 => ?_)
  · replace hQ := hQ.1 c1
    refine ev_iconst (0) dX10_append_53 rfl ?_
    refine ev_iconst (1) dX10_append_54 rfl ?_
    refine ev_cV mv_X10_right 1 0 10 [ev_i 0, ev_i 1] [] dX10_append_55 kw_1951 rfl (by decide) rfl (by decide) (by decide) (Nat.le_of_ble_eq_true rfl) (Q' := fun o z => ev_After g m_X10_append 2 (0 - 0) 55 [some (ev_o 10 a), some (ev_i x0), some (ev_i x1), some (ev_i x2), some (ev_i x3), some (ev_i x4), some (ev_i (S.1 a 10))] [] z Q o) (sg_X10_right_0 a 0 1 ?_) (fun o z h => h) rfl
    refine ⟨fun c2 => ?_, fun c2 => ?_⟩
    · replace hQ := hQ.1 c2
      refine j_pos (by decide : ((0 : Int32) = 0)) ?_
      intro S7 hS7
      refine ev_sub1 hQ hS7 (fun hQ => ?_)
      refine j_neg (by decide : ¬ ((1 : Int32) = 0)) ?_
      show ev_E g m_X10_append 2 0 58 [some (ev_o 10 a), some (ev_i x0), some (ev_i x1), some (ev_i x2), some (ev_i x3), some (ev_i x4), some (ev_i (S.1 a 10))] [ev_i 0] S7 Q
      refine ev_if_eq 66 dX10_append_58 (by decide) (fun _ => ?_) (fun h9 => absurd (by decide : ((0 : Int32) = 0)) h9)
      refine ev_aload_n (ev_o 10 a) dX10_append_66 rfl rfl ?_
      refine ev_iload ((S.1 a 10)) dX10_append_67 rfl ?_
      refine pf_10_10 dX10_append_69 kw_1863 ?_
      refine ev_sub hQ (fun S8 hS8 hQ => ?_)
      refine ev_E.goal (pc' := 72) (L' := [some (ev_o 10 a), some (ev_i x0), some (ev_i x1), some (ev_i x2), some (ev_i x3), some (ev_i x4), some (ev_i (S.1 a 10))]) (K' := []) (S' := S8) ?_ rfl rfl rfl hS8
      refine ev_iconst (0) dX10_append_72 rfl ?_
      exact ev_ireturn .int dX10_append_73 rfl rfl hQ
    · replace hQ := hQ.2 c2
      show ev_E g m_X10_append 2 0 58 [some (ev_o 10 a), some (ev_i x0), some (ev_i x1), some (ev_i x2), some (ev_i x3), some (ev_i x4), some (ev_i (S.1 a 10))] [ev_i 0] S6 Q
      refine ev_if_eq 66 dX10_append_58 (by decide) (fun _ => ?_) (fun h9 => absurd (by decide : ((0 : Int32) = 0)) h9)
      refine ev_aload_n (ev_o 10 a) dX10_append_66 rfl rfl ?_
      refine ev_iload ((S.1 a 10)) dX10_append_67 rfl ?_
      refine pf_10_10 dX10_append_69 kw_1863 ?_
      refine ev_sub hQ (fun S9 hS9 hQ => ?_)
      refine ev_E.goal (pc' := 72) (L' := [some (ev_o 10 a), some (ev_i x0), some (ev_i x1), some (ev_i x2), some (ev_i x3), some (ev_i x4), some (ev_i (S.1 a 10))]) (K' := []) (S' := S9) ?_ rfl rfl rfl hS9
      refine ev_iconst (0) dX10_append_72 rfl ?_
      exact ev_ireturn .int dX10_append_73 rfl rfl hQ
  · replace hQ := hQ.2 c1
    refine ev_iconst (1) dX10_append_49 rfl ?_
    refine ev_goto 54 dX10_append_50 (by decide) ?_
    refine ev_iconst (1) dX10_append_54 rfl ?_
    refine ev_cV mv_X10_right 1 0 10 [ev_i 1, ev_i 1] [] dX10_append_55 kw_1951 rfl (by decide) rfl (by decide) (by decide) (Nat.le_of_ble_eq_true rfl) (Q' := fun o z => ev_After g m_X10_append 2 (0 - 0) 55 [some (ev_o 10 a), some (ev_i x0), some (ev_i x1), some (ev_i x2), some (ev_i x3), some (ev_i x4), some (ev_i (S.1 a 10))] [] z Q o) (sg_X10_right_0 a 1 1 ?_) (fun o z h => h) rfl
    refine ⟨fun c3 => ?_, fun c3 => ?_⟩
    · replace hQ := hQ.1 c3
      refine j_neg (by decide : ¬ ((1 : Int32) = 0)) ?_
      show ev_E g m_X10_append 2 0 58 [some (ev_o 10 a), some (ev_i x0), some (ev_i x1), some (ev_i x2), some (ev_i x3), some (ev_i x4), some (ev_i (S.1 a 10))] [ev_i 1] S6 Q
      refine ev_if_eq 66 dX10_append_58 (by decide) (fun h9 => absurd h9 (by decide : ¬ ((1 : Int32) = 0))) (fun _ => ?_)
      refine ev_aload_n (ev_o 10 a) dX10_append_61 rfl rfl ?_
      refine gf_10_10 dX10_append_62 kw_1863 ?_
      exact ev_ireturn .int dX10_append_65 rfl rfl hQ
    · replace hQ := hQ.2 c3
      show ev_E g m_X10_append 2 0 58 [some (ev_o 10 a), some (ev_i x0), some (ev_i x1), some (ev_i x2), some (ev_i x3), some (ev_i x4), some (ev_i (S.1 a 10))] [ev_i 0] S6 Q
      refine ev_if_eq 66 dX10_append_58 (by decide) (fun _ => ?_) (fun h9 => absurd (by decide : ((0 : Int32) = 0)) h9)
      refine ev_aload_n (ev_o 10 a) dX10_append_66 rfl rfl ?_
      refine ev_iload ((S.1 a 10)) dX10_append_67 rfl ?_
      refine pf_10_10 dX10_append_69 kw_1863 ?_
      refine ev_sub hQ (fun S10 hS10 hQ => ?_)
      refine ev_E.goal (pc' := 72) (L' := [some (ev_o 10 a), some (ev_i x0), some (ev_i x1), some (ev_i x2), some (ev_i x3), some (ev_i x4), some (ev_i (S.1 a 10))]) (K' := []) (S' := S10) ?_ rfl rfl rfl hS10
      refine ev_iconst (0) dX10_append_72 rfl ?_
      exact ev_ireturn .int dX10_append_73 rfl rfl hQ
set_option maxHeartbeats 4000000 in
set_option maxRecDepth 100000 in
theorem sg_X10_truncate_0 {g : ev_G} {S : ev_S} {Q : ev_O → ev_S → Prop} (a : Nat) (x0 : Int32) (hQ : ∀ S1 : ev_S, S1 = (ev_up S a 7 0) → (
    ((t_X10_in x0 0 (S.1 a 10)) = true → (
      ∀ S2 : ev_S, S2 = (ev_up S1 a 10 x0) → (
        Q (.inl (some (ev_i ((S.1 a 10) - x0)))) S2))) ∧
    (¬ ((t_X10_in x0 0 (S.1 a 10)) = true) → (
      ∀ S3 : ev_S, S3 = (ev_up S1 a 7 1) → (
        Q (.inl (some (ev_i 0))) S3))))) : ev_Cv g m_X10_truncate 2 0 [ev_o 10 a, ev_i x0] S Q := by
  refine ev_enter (by decide) rfl rfl (Nat.le_of_ble_eq_true rfl) ?_
  show ev_E g m_X10_truncate 2 0 0 [some (ev_o 10 a), some (ev_i x0), none] [] S Q
  refine ev_aload_n (ev_o 10 a) dX10_truncate_0 rfl rfl ?_
  refine ev_iconst (0) dX10_truncate_1 rfl ?_
  refine pf_10_7 dX10_truncate_2 kw_1860 ?_
  refine ev_sub hQ (fun S1 hS1 hQ => ?_)
  refine ev_E.goal (pc' := 5) (L' := [some (ev_o 10 a), some (ev_i x0), none]) (K' := []) (S' := S1) ?_ rfl rfl rfl hS1
  refine ev_aload_n (ev_o 10 a) dX10_truncate_5 rfl rfl ?_
  refine ev_iload_n (x0) dX10_truncate_6 rfl ?_
  refine ev_iconst (0) dX10_truncate_7 rfl ?_
  refine ev_aload_n (ev_o 10 a) dX10_truncate_8 rfl rfl ?_
  refine gf_10_10 dX10_truncate_9 kw_1863 ?_
  refine ev_ke (j_rk hS1 (Or.inr (by decide))) ?_
  refine ev_fS ms_X10_in 1 [ev_i x0, ev_i 0, ev_i (S.1 a 10)] [ev_o 10 a] dX10_truncate_12 kw_1781 rfl (by decide) (Nat.le_of_ble_eq_true rfl) (sp_X10_in x0 0 (S.1 a 10)) ?_ rfl
  by_cases c1 : (t_X10_in x0 0 (S.1 a 10)) = true
  · rw [if_pos c1]
    replace hQ := hQ.1 c1
    refine ev_iconst (1) dX10_truncate_15 rfl ?_
    refine ev_cV mv_X10_right 1 0 10 [ev_i 1, ev_i 1] [] dX10_truncate_16 kw_1951 rfl (by decide) rfl (by decide) (by decide) (Nat.le_of_ble_eq_true rfl) (Q' := fun o z => ev_After g m_X10_truncate 2 (0 - 0) 16 [some (ev_o 10 a), some (ev_i x0), none] [] z Q o) (sg_X10_right_0 a 1 1 ?_) (fun o z h => h) rfl
    refine j_pos (by rw [j_rs hS1] <;> decide : ((S1.1 a 7) = 0)) ?_
    refine j_neg (by decide : ¬ ((1 : Int32) = 0)) ?_
    show ev_E g m_X10_truncate 2 0 19 [some (ev_o 10 a), some (ev_i x0), none] [ev_i 1] S1 Q
    refine ev_if_ne 24 dX10_truncate_19 (by decide) (fun _ => ?_) (fun h9 => absurd h9 (by decide : ¬ ((1 : Int32) = 0)))
    refine ev_aload_n (ev_o 10 a) dX10_truncate_24 rfl rfl ?_
    refine gf_10_10 dX10_truncate_25 kw_1863 ?_
    refine ev_ke (j_rk hS1 (Or.inr (by decide))) ?_
    refine ev_iload_n (x0) dX10_truncate_28 rfl ?_
    refine ev_isub dX10_truncate_29 ?_
    refine ev_istore_n dX10_truncate_30 (Nat.le_of_ble_eq_true rfl) (ev_hw rfl) ?_
    show ev_E g m_X10_truncate 2 0 31 [some (ev_o 10 a), some (ev_i x0), some (ev_i ((S.1 a 10) - x0))] [] S1 Q
    refine ev_aload_n (ev_o 10 a) dX10_truncate_31 rfl rfl ?_
    refine ev_iload_n (x0) dX10_truncate_32 rfl ?_
    refine pf_10_10 dX10_truncate_33 kw_1863 ?_
    refine ev_sub hQ (fun S2 hS2 hQ => ?_)
    refine ev_E.goal (pc' := 36) (L' := [some (ev_o 10 a), some (ev_i x0), some (ev_i ((S.1 a 10) - x0))]) (K' := []) (S' := S2) ?_ rfl rfl rfl hS2
    refine ev_iload_n (((S.1 a 10) - x0)) dX10_truncate_36 rfl ?_
    exact ev_ireturn .int dX10_truncate_37 rfl rfl hQ
  · rw [if_neg c1]
    replace hQ := hQ.2 c1
    refine ev_iconst (1) dX10_truncate_15 rfl ?_
    refine ev_cV mv_X10_right 1 0 10 [ev_i 0, ev_i 1] [] dX10_truncate_16 kw_1951 rfl (by decide) rfl (by decide) (by decide) (Nat.le_of_ble_eq_true rfl) (Q' := fun o z => ev_After g m_X10_truncate 2 (0 - 0) 16 [some (ev_o 10 a), some (ev_i x0), none] [] z Q o) (sg_X10_right_0 a 0 1 ?_) (fun o z h => h) rfl
    refine j_pos (by rw [j_rs hS1] <;> decide : ((S1.1 a 7) = 0)) ?_
    refine j_pos (by decide : ((0 : Int32) = 0)) ?_
    intro S3 hS3
    refine ev_sub1 hQ hS3 (fun hQ => ?_)
    refine j_neg (by decide : ¬ ((1 : Int32) = 0)) ?_
    show ev_E g m_X10_truncate 2 0 19 [some (ev_o 10 a), some (ev_i x0), none] [ev_i 0] S3 Q
    refine ev_if_ne 24 dX10_truncate_19 (by decide) (fun h9 => absurd (by decide : ((0 : Int32) = 0)) h9) (fun _ => ?_)
    refine ev_iconst (0) dX10_truncate_22 rfl ?_
    exact ev_ireturn .int dX10_truncate_23 rfl rfl hQ
set_option maxHeartbeats 4000000 in
set_option maxRecDepth 100000 in
theorem sg_X10_errorCode_0 {g : ev_G} {S : ev_S} {Q : ev_O → ev_S → Prop} (a : Nat) (hQ : ∀ S1 : ev_S, S1 = (ev_up S a 7 0) → (
    Q (.inl (some (ev_i (S.1 a 11)))) S1)) : ev_Cv g m_X10_errorCode 1 0 [ev_o 10 a] S Q := by
  refine ev_enter (by decide) rfl rfl (Nat.le_of_ble_eq_true rfl) ?_
  show ev_E g m_X10_errorCode 1 0 0 [some (ev_o 10 a)] [] S Q
  refine ev_aload_n (ev_o 10 a) dX10_errorCode_0 rfl rfl ?_
  refine ev_iconst (0) dX10_errorCode_1 rfl ?_
  refine pf_10_7 dX10_errorCode_2 kw_1860 ?_
  refine ev_sub hQ (fun S1 hS1 hQ => ?_)
  refine ev_E.goal (pc' := 5) (L' := [some (ev_o 10 a)]) (K' := []) (S' := S1) ?_ rfl rfl rfl hS1
  refine ev_aload_n (ev_o 10 a) dX10_errorCode_5 rfl rfl ?_
  refine gf_10_11 dX10_errorCode_6 kw_1864 ?_
  refine ev_ke (j_rk hS1 (Or.inr (by decide))) ?_
  exact ev_ireturn .int dX10_errorCode_9 rfl rfl hQ
set_option maxHeartbeats 4000000 in
set_option maxRecDepth 100000 in
theorem sp_X10_errorCode {g : ev_G} {S : ev_S} (a : Nat)  : ev_Fn g m_X10_errorCode 1 [ev_o 10 a] S (some (ev_i (S.1 a 11))) (ev_up S a 7 0) := by
  intro Q hQ
  refine sg_X10_errorCode_0 a ?_
  intro S1 hS1
  subst hS1
  exact hQ
set_option maxHeartbeats 4000000 in
set_option maxRecDepth 100000 in
theorem sg_X10_errorPosition_0 {g : ev_G} {S : ev_S} {Q : ev_O → ev_S → Prop} (a : Nat) (hQ : ∀ S1 : ev_S, S1 = (ev_up S a 7 0) → (
    Q (.inl (some (ev_i (S.1 a 12)))) S1)) : ev_Cv g m_X10_errorPosition 1 0 [ev_o 10 a] S Q := by
  refine ev_enter (by decide) rfl rfl (Nat.le_of_ble_eq_true rfl) ?_
  show ev_E g m_X10_errorPosition 1 0 0 [some (ev_o 10 a)] [] S Q
  refine ev_aload_n (ev_o 10 a) dX10_errorPosition_0 rfl rfl ?_
  refine ev_iconst (0) dX10_errorPosition_1 rfl ?_
  refine pf_10_7 dX10_errorPosition_2 kw_1860 ?_
  refine ev_sub hQ (fun S1 hS1 hQ => ?_)
  refine ev_E.goal (pc' := 5) (L' := [some (ev_o 10 a)]) (K' := []) (S' := S1) ?_ rfl rfl rfl hS1
  refine ev_aload_n (ev_o 10 a) dX10_errorPosition_5 rfl rfl ?_
  refine gf_10_12 dX10_errorPosition_6 kw_1865 ?_
  refine ev_ke (j_rk hS1 (Or.inr (by decide))) ?_
  exact ev_ireturn .int dX10_errorPosition_9 rfl rfl hQ
set_option maxHeartbeats 4000000 in
set_option maxRecDepth 100000 in
theorem sp_X10_errorPosition {g : ev_G} {S : ev_S} (a : Nat)  : ev_Fn g m_X10_errorPosition 1 [ev_o 10 a] S (some (ev_i (S.1 a 12))) (ev_up S a 7 0) := by
  intro Q hQ
  refine sg_X10_errorPosition_0 a ?_
  intro S1 hS1
  subst hS1
  exact hQ
set_option maxHeartbeats 4000000 in
set_option maxRecDepth 100000 in
theorem sg_X10_isWhole_0 {g : ev_G} {S : ev_S} {Q : ev_O → ev_S → Prop} (a : Nat) (hQ : ∀ S1 : ev_S, S1 = (ev_up S a 10 0) → (
    ∀ S2 : ev_S, S2 = (ev_up S1 a 11 (S.1 a 17)) → (
      ∀ S3 : ev_S, S3 = (ev_up S2 a 12 (S.1 a 18)) → (
        ((S.1 a 17) = 0 → (
          Q (.inl (some (ev_i 1))) S3)) ∧
        (¬ ((S.1 a 17) = 0) → (
          Q (.inl (some (ev_i 0))) S3)))))) : ev_Cv g m_X10_isWhole 1 0 [ev_o 10 a] S Q := by
  refine ev_enter (by decide) rfl rfl (Nat.le_of_ble_eq_true rfl) ?_
  show ev_E g m_X10_isWhole 1 0 0 [some (ev_o 10 a)] [] S Q
  refine ev_aload_n (ev_o 10 a) dX10_isWhole_0 rfl rfl ?_
  refine ev_iconst (0) dX10_isWhole_1 rfl ?_
  refine pf_10_10 dX10_isWhole_2 kw_1863 ?_
  refine ev_sub hQ (fun S1 hS1 hQ => ?_)
  refine ev_E.goal (pc' := 5) (L' := [some (ev_o 10 a)]) (K' := []) (S' := S1) ?_ rfl rfl rfl hS1
  refine ev_aload_n (ev_o 10 a) dX10_isWhole_5 rfl rfl ?_
  refine ev_aload_n (ev_o 10 a) dX10_isWhole_6 rfl rfl ?_
  refine gf_10_17 dX10_isWhole_7 kw_1870 ?_
  refine ev_ke (j_rk hS1 (Or.inr (by decide))) ?_
  refine pf_10_11 dX10_isWhole_10 kw_1864 ?_
  refine ev_sub hQ (fun S2 hS2 hQ => ?_)
  refine ev_E.goal (pc' := 13) (L' := [some (ev_o 10 a)]) (K' := []) (S' := S2) ?_ rfl rfl rfl hS2
  refine ev_aload_n (ev_o 10 a) dX10_isWhole_13 rfl rfl ?_
  refine ev_aload_n (ev_o 10 a) dX10_isWhole_14 rfl rfl ?_
  refine gf_10_18 dX10_isWhole_15 kw_1871 ?_
  refine ev_ke ((j_rk hS2 (Or.inr (by decide))).trans (j_rk hS1 (Or.inr (by decide)))) ?_
  refine pf_10_12 dX10_isWhole_18 kw_1865 ?_
  refine ev_sub hQ (fun S3 hS3 hQ => ?_)
  refine ev_E.goal (pc' := 21) (L' := [some (ev_o 10 a)]) (K' := []) (S' := S3) ?_ rfl rfl rfl hS3
  refine ev_aload_n (ev_o 10 a) dX10_isWhole_21 rfl rfl ?_
  refine gf_10_17 dX10_isWhole_22 kw_1870 ?_
  refine ev_ke (((j_rk hS3 (Or.inr (by decide))).trans (j_rk hS2 (Or.inr (by decide)))).trans (j_rk hS1 (Or.inr (by decide)))) ?_
  refine ev_if_ne 32 dX10_isWhole_25 (by decide) (fun c1 => ?_) (fun c1 => ?_)
  · replace hQ := hQ.2 c1
    refine ev_iconst (0) dX10_isWhole_32 rfl ?_
    exact ev_ireturn .boolean dX10_isWhole_33 rfl rfl hQ
  · replace hQ := hQ.1 c1
    refine ev_iconst (1) dX10_isWhole_28 rfl ?_
    refine ev_goto 33 dX10_isWhole_29 (by decide) ?_
    exact ev_ireturn .boolean dX10_isWhole_33 rfl rfl hQ
set_option maxHeartbeats 4000000 in
set_option maxRecDepth 100000 in
theorem sg_X10_load_0 {g : ev_G} {S : ev_S} {Q : ev_O → ev_S → Prop} (a : Nat) (hQ : ∀ S1 : ev_S, S1 = (ev_up S a 7 0) → (
    ev_E g m_X10_load 8 0 7 [some (ev_o 10 a), some (ev_i 0)] [] S1 Q)) : ev_Cv g m_X10_load 8 0 [ev_o 10 a] S Q := by
  refine ev_enter (by decide) rfl rfl (Nat.le_of_ble_eq_true rfl) ?_
  show ev_E g m_X10_load 8 0 0 [some (ev_o 10 a), none] [] S Q
  refine ev_aload_n (ev_o 10 a) dX10_load_0 rfl rfl ?_
  refine ev_iconst (0) dX10_load_1 rfl ?_
  refine pf_10_7 dX10_load_2 kw_1860 ?_
  refine ev_sub hQ (fun S1 hS1 hQ => ?_)
  refine ev_E.goal (pc' := 5) (L' := [some (ev_o 10 a), none]) (K' := []) (S' := S1) ?_ rfl rfl rfl hS1
  refine ev_iconst (0) dX10_load_5 rfl ?_
  refine ev_istore_n dX10_load_6 (Nat.le_of_ble_eq_true rfl) (ev_hw rfl) ?_
  show ev_E g m_X10_load 8 0 7 [some (ev_o 10 a), some (ev_i 0)] [] S1 Q
  exact hQ
set_option maxHeartbeats 4000000 in
set_option maxRecDepth 100000 in
theorem sg_X10_load_7 {g : ev_G} {S : ev_S} {Q : ev_O → ev_S → Prop} (a : Nat) (u1 : Int32) (hQ : (2091 ≤ u1 → (
    ev_Cv g m_X10_begins 2 0 [ev_o 10 a] S (fun o S1 => o = .inl none ∧ (
      ev_Cv g m_X10_starts 3 0 [ev_o 10 a] S1 (fun o S2 => o = .inl none ∧ (
        ev_Cv g m_X10_readsSetup 7 0 [ev_o 10 a] S2 (fun o S3 => o = .inl none ∧ (
          ev_Cv g m_X10_isWhole 1 0 [ev_o 10 a] S3 (fun o S4 => ∃ v4_ : Bool, o = .inl (some (ev_i (if v4_ = true then 1 else 0))) ∧ (
            (v4_ = true → (
              ∀ S5 : ev_S, S5 = (ev_up S4 a 6 0) → (
                ∀ S6 : ev_S, S6 = (ev_up S5 (a + 6) 0 0) → (
                  ∀ S7 : ev_S, S7 = (ev_up S6 (a + 6) 1 0) → (
                    Q (.inl (some (ev_i 0))) S7))))) ∧
            (¬ (v4_ = true) → (
              ev_E g m_X10_load 8 0 53 [some (ev_o 10 a), some (ev_i 0)] [] S4 Q)))))))))))) ∧
  (¬ (2091 ≤ u1) → (
    (vp_in u1 2091) ∧ (
      ∀ S8 : ev_S, S8 = (ev_up S (a + 3) u1.toNatClampNeg (S.1 (a + 1) u1.toNatClampNeg)) → (
        ev_E g m_X10_load 8 0 7 [some (ev_o 10 a), some (ev_i (u1 + 1))] [] S8 Q))))) : ev_E g m_X10_load 8 0 7 [some (ev_o 10 a), some (ev_i u1)] [] S Q := by
  refine ev_iload_n (u1) dX10_load_7 rfl ?_
  refine ev_sipush (2091) dX10_load_8 (by decide) ?_
  refine ev_icmp_ge 32 dX10_load_11 (by decide) (fun c1 => ?_) (fun c1 => ?_)
  · replace hQ := hQ.1 c1
    refine ev_aload_n (ev_o 10 a) dX10_load_32 rfl rfl ?_
    refine ev_cV mv_X10_begins 2 0 10 [] [] dX10_load_33 kw_1761 rfl (by decide) rfl (by decide) (by decide) (Nat.le_of_ble_eq_true rfl) hQ ?_ rfl
    rintro o S1 ⟨rfl, hQ⟩
    show ev_E g m_X10_load 8 0 36 [some (ev_o 10 a), some (ev_i u1)] [] S1 Q
    refine ev_aload_n (ev_o 10 a) dX10_load_36 rfl rfl ?_
    refine ev_cV mv_X10_starts 3 0 10 [] [] dX10_load_37 kw_1769 rfl (by decide) rfl (by decide) (by decide) (Nat.le_of_ble_eq_true rfl) hQ ?_ rfl
    rintro o S2 ⟨rfl, hQ⟩
    show ev_E g m_X10_load 8 0 40 [some (ev_o 10 a), some (ev_i u1)] [] S2 Q
    refine ev_aload_n (ev_o 10 a) dX10_load_40 rfl rfl ?_
    refine ev_cV mv_X10_readsSetup 7 0 10 [] [] dX10_load_41 kw_1785 rfl (by decide) rfl (by decide) (by decide) (Nat.le_of_ble_eq_true rfl) hQ ?_ rfl
    rintro o S3 ⟨rfl, hQ⟩
    show ev_E g m_X10_load 8 0 44 [some (ev_o 10 a), some (ev_i u1)] [] S3 Q
    refine ev_aload_n (ev_o 10 a) dX10_load_44 rfl rfl ?_
    refine ev_cV mv_X10_isWhole 1 0 10 [] [] dX10_load_45 kw_1971 rfl (by decide) rfl (by decide) (by decide) (Nat.le_of_ble_eq_true rfl) hQ ?_ rfl
    rintro o S4 ⟨v4_, rfl, hQ⟩
    show ev_E g m_X10_load 8 0 48 [some (ev_o 10 a), some (ev_i u1)] [ev_i (if v4_ = true then 1 else 0)] S4 Q
    by_cases c2 : v4_ = true
    · rw [if_pos c2]
      replace hQ := hQ.1 c2
      refine ev_if_ne 83 dX10_load_48 (by decide) (fun _ => ?_) (fun h9 => absurd h9 (by decide : ¬ ((1 : Int32) = 0)))
      refine ev_aload_n (ev_o 10 a) dX10_load_83 rfl rfl ?_
      refine ev_iconst (0) dX10_load_84 rfl ?_
      refine pf_10_6 dX10_load_85 kw_1859 ?_
      refine ev_sub hQ (fun S5 hS5 hQ => ?_)
      refine ev_E.goal (pc' := 88) (L' := [some (ev_o 10 a), some (ev_i u1)]) (K' := []) (S' := S5) ?_ rfl rfl rfl hS5
      refine ev_aload_n (ev_o 10 a) dX10_load_88 rfl rfl ?_
      refine gf_10_5 dX10_load_89 kw_1858 ?_
      refine ev_iconst (0) dX10_load_92 rfl ?_
      refine ev_iconst (0) dX10_load_93 rfl ?_
      refine ev_bastore dX10_load_94 (j_vin (by decide)) rfl ?_
      refine ev_sub hQ (fun S6 hS6 hQ => ?_)
      refine ev_E.goal (pc' := 95) (L' := [some (ev_o 10 a), some (ev_i u1)]) (K' := []) (S' := S6) ?_ rfl rfl rfl hS6
      refine ev_aload_n (ev_o 10 a) dX10_load_95 rfl rfl ?_
      refine gf_10_5 dX10_load_96 kw_1858 ?_
      refine ev_iconst (1) dX10_load_99 rfl ?_
      refine ev_iconst (0) dX10_load_100 rfl ?_
      refine ev_bastore dX10_load_101 (j_vin (by decide)) rfl ?_
      refine ev_sub hQ (fun S7 hS7 hQ => ?_)
      refine ev_E.goal (pc' := 102) (L' := [some (ev_o 10 a), some (ev_i u1)]) (K' := []) (S' := S7) ?_ rfl rfl rfl hS7
      refine ev_iconst (0) dX10_load_102 rfl ?_
      exact ev_ireturn .int dX10_load_103 rfl rfl hQ
    · rw [if_neg c2]
      replace hQ := hQ.2 c2
      refine ev_if_ne 83 dX10_load_48 (by decide) (fun h9 => absurd (by decide : ((0 : Int32) = 0)) h9) (fun _ => ?_)
      refine ev_iconst (0) dX10_load_51 rfl ?_
      refine ev_istore_n dX10_load_52 (Nat.le_of_ble_eq_true rfl) (ev_hw rfl) ?_
      show ev_E g m_X10_load 8 0 53 [some (ev_o 10 a), some (ev_i 0)] [] S4 Q
      exact hQ
  · replace hQ := hQ.2 c1
    refine ev_aload_n (ev_o 10 a) dX10_load_14 rfl rfl ?_
    refine gf_10_2 dX10_load_15 kw_1855 ?_
    refine ev_iload_n (u1) dX10_load_18 rfl ?_
    refine ev_aload_n (ev_o 10 a) dX10_load_19 rfl rfl ?_
    refine gf_10_0 dX10_load_20 kw_1853 ?_
    refine ev_iload_n (u1) dX10_load_23 rfl ?_
    obtain ⟨h1, hQ⟩ := hQ
    refine ev_iaload dX10_load_24 h1 ?_
    refine ev_iastore dX10_load_25 h1 ?_
    refine ev_sub hQ (fun S8 hS8 hQ => ?_)
    refine ev_E.goal (pc' := 26) (L' := [some (ev_o 10 a), some (ev_i u1)]) (K' := []) (S' := S8) ?_ rfl rfl rfl hS8
    refine ev_iinc u1 (1) dX10_load_26 rfl (by decide) (ev_hw rfl) ?_
    show ev_E g m_X10_load 8 0 29 [some (ev_o 10 a), some (ev_i (u1 + 1))] [] S8 Q
    refine ev_goto 7 dX10_load_29 (by decide) ?_
    exact hQ
set_option maxHeartbeats 4000000 in
set_option maxRecDepth 100000 in
theorem sg_X10_load_53 {g : ev_G} {S : ev_S} {Q : ev_O → ev_S → Prop} (a : Nat) (u1 : Int32) (hQ : (2091 ≤ u1 → (
    Q (.inl (some (ev_i (S.1 a 11)))) S)) ∧
  (¬ (2091 ≤ u1) → (
    (vp_in u1 2091) ∧ (
      ∀ S1 : ev_S, S1 = (ev_up S (a + 1) u1.toNatClampNeg (S.1 (a + 3) u1.toNatClampNeg)) → (
        ev_E g m_X10_load 8 0 53 [some (ev_o 10 a), some (ev_i (u1 + 1))] [] S1 Q))))) : ev_E g m_X10_load 8 0 53 [some (ev_o 10 a), some (ev_i u1)] [] S Q := by
  refine ev_iload_n (u1) dX10_load_53 rfl ?_
  refine ev_sipush (2091) dX10_load_54 (by decide) ?_
  refine ev_icmp_ge 78 dX10_load_57 (by decide) (fun c1 => ?_) (fun c1 => ?_)
  · replace hQ := hQ.1 c1
    refine ev_aload_n (ev_o 10 a) dX10_load_78 rfl rfl ?_
    refine gf_10_11 dX10_load_79 kw_1864 ?_
    exact ev_ireturn .int dX10_load_82 rfl rfl hQ
  · replace hQ := hQ.2 c1
    refine ev_aload_n (ev_o 10 a) dX10_load_60 rfl rfl ?_
    refine gf_10_0 dX10_load_61 kw_1853 ?_
    refine ev_iload_n (u1) dX10_load_64 rfl ?_
    refine ev_aload_n (ev_o 10 a) dX10_load_65 rfl rfl ?_
    refine gf_10_2 dX10_load_66 kw_1855 ?_
    refine ev_iload_n (u1) dX10_load_69 rfl ?_
    obtain ⟨h1, hQ⟩ := hQ
    refine ev_iaload dX10_load_70 h1 ?_
    refine ev_iastore dX10_load_71 h1 ?_
    refine ev_sub hQ (fun S1 hS1 hQ => ?_)
    refine ev_E.goal (pc' := 72) (L' := [some (ev_o 10 a), some (ev_i u1)]) (K' := []) (S' := S1) ?_ rfl rfl rfl hS1
    refine ev_iinc u1 (1) dX10_load_72 rfl (by decide) (ev_hw rfl) ?_
    show ev_E g m_X10_load 8 0 75 [some (ev_o 10 a), some (ev_i (u1 + 1))] [] S1 Q
    refine ev_goto 53 dX10_load_75 (by decide) ?_
    exact hQ
set_option maxHeartbeats 4000000 in
set_option maxRecDepth 100000 in
theorem sg_X10_commandHere_0 {g : ev_G} {S : ev_S} {Q : ev_O → ev_S → Prop} (a : Nat) (hQ : ev_Cv g m_X10_isWord 5 0 [ev_o 10 a, ev_x 1 32] S (fun o S1 => ∃ v1_ : Bool, o = .inl (some (ev_i (if v1_ = true then 1 else 0))) ∧ (
    (v1_ = true → (
      Q (.inl (some (ev_i 0))) S1)) ∧
    (¬ (v1_ = true) → (
      ev_Cv g m_X10_isWord 5 0 [ev_o 10 a, ev_x 1 33] S1 (fun o S2 => ∃ v2_ : Bool, o = .inl (some (ev_i (if v2_ = true then 1 else 0))) ∧ (
        (v2_ = true → (
          Q (.inl (some (ev_i 1))) S2)) ∧
        (¬ (v2_ = true) → (
          ev_Cv g m_X10_isWord 5 0 [ev_o 10 a, ev_x 1 34] S2 (fun o S3 => ∃ v3_ : Bool, o = .inl (some (ev_i (if v3_ = true then 1 else 0))) ∧ (
            (v3_ = true → (
              Q (.inl (some (ev_i 2))) S3)) ∧
            (¬ (v3_ = true) → (
              ev_Cv g m_X10_isWord 5 0 [ev_o 10 a, ev_x 1 35] S3 (fun o S4 => ∃ v4_ : Bool, o = .inl (some (ev_i (if v4_ = true then 1 else 0))) ∧ (
                (v4_ = true → (
                  Q (.inl (some (ev_i 3))) S4)) ∧
                (¬ (v4_ = true) → (
                  ev_Cv g m_X10_isWord 5 0 [ev_o 10 a, ev_x 1 36] S4 (fun o S5 => ∃ v5_ : Bool, o = .inl (some (ev_i (if v5_ = true then 1 else 0))) ∧ (
                    (v5_ = true → (
                      Q (.inl (some (ev_i 4))) S5)) ∧
                    (¬ (v5_ = true) → (
                      ev_Cv g m_X10_isWord 5 0 [ev_o 10 a, ev_x 1 31] S5 (fun o S6 => ∃ v6_ : Bool, o = .inl (some (ev_i (if v6_ = true then 1 else 0))) ∧ (
                        (v6_ = true → (
                          Q (.inl (some (ev_i 5))) S6)) ∧
                        (¬ (v6_ = true) → (
                          ev_Cv g m_X10_isWord 5 0 [ev_o 10 a, ev_x 1 37] S6 (fun o S7 => ∃ v7_ : Bool, o = .inl (some (ev_i (if v7_ = true then 1 else 0))) ∧ (
                            (v7_ = true → (
                              Q (.inl (some (ev_i 6))) S7)) ∧
                            (¬ (v7_ = true) → (
                              Q (.inl (some (ev_i (-1)))) S7))))))))))))))))))))))))))))) : ev_Cv g m_X10_commandHere 6 0 [ev_o 10 a] S Q := by
  refine ev_enter (by decide) rfl rfl (Nat.le_of_ble_eq_true rfl) ?_
  show ev_E g m_X10_commandHere 6 0 0 [some (ev_o 10 a)] [] S Q
  refine ev_aload_n (ev_o 10 a) dX10_commandHere_0 rfl rfl ?_
  refine ev_ldcw "move" 32 dX10_commandHere_1 (List.mem_of_getElem? (i := 32) rfl) (by decide) ?_
  refine ev_cV mv_X10_isWord 5 0 10 [ev_x 1 32] [] dX10_commandHere_4 kw_1790 rfl (by decide) rfl (by decide) (by decide) (Nat.le_of_ble_eq_true rfl) hQ ?_ rfl
  rintro o S1 ⟨v1_, rfl, hQ⟩
  show ev_E g m_X10_commandHere 6 0 7 [some (ev_o 10 a)] [ev_i (if v1_ = true then 1 else 0)] S1 Q
  by_cases c1 : v1_ = true
  · rw [if_pos c1]
    replace hQ := hQ.1 c1
    refine ev_if_eq 12 dX10_commandHere_7 (by decide) (fun h9 => absurd h9 (by decide : ¬ ((1 : Int32) = 0))) (fun _ => ?_)
    refine ev_iconst (0) dX10_commandHere_10 rfl ?_
    exact ev_ireturn .int dX10_commandHere_11 rfl rfl hQ
  · rw [if_neg c1]
    replace hQ := hQ.2 c1
    refine ev_if_eq 12 dX10_commandHere_7 (by decide) (fun _ => ?_) (fun h9 => absurd (by decide : ((0 : Int32) = 0)) h9)
    refine ev_aload_n (ev_o 10 a) dX10_commandHere_12 rfl rfl ?_
    refine ev_ldcw "promise" 33 dX10_commandHere_13 (List.mem_of_getElem? (i := 33) rfl) (by decide) ?_
    refine ev_cV mv_X10_isWord 5 0 10 [ev_x 1 33] [] dX10_commandHere_16 kw_1790 rfl (by decide) rfl (by decide) (by decide) (Nat.le_of_ble_eq_true rfl) hQ ?_ rfl
    rintro o S2 ⟨v2_, rfl, hQ⟩
    show ev_E g m_X10_commandHere 6 0 19 [some (ev_o 10 a)] [ev_i (if v2_ = true then 1 else 0)] S2 Q
    by_cases c2 : v2_ = true
    · rw [if_pos c2]
      replace hQ := hQ.1 c2
      refine ev_if_eq 24 dX10_commandHere_19 (by decide) (fun h9 => absurd h9 (by decide : ¬ ((1 : Int32) = 0))) (fun _ => ?_)
      refine ev_iconst (1) dX10_commandHere_22 rfl ?_
      exact ev_ireturn .int dX10_commandHere_23 rfl rfl hQ
    · rw [if_neg c2]
      replace hQ := hQ.2 c2
      refine ev_if_eq 24 dX10_commandHere_19 (by decide) (fun _ => ?_) (fun h9 => absurd (by decide : ((0 : Int32) = 0)) h9)
      refine ev_aload_n (ev_o 10 a) dX10_commandHere_24 rfl rfl ?_
      refine ev_ldcw "resend" 34 dX10_commandHere_25 (List.mem_of_getElem? (i := 34) rfl) (by decide) ?_
      refine ev_cV mv_X10_isWord 5 0 10 [ev_x 1 34] [] dX10_commandHere_28 kw_1790 rfl (by decide) rfl (by decide) (by decide) (Nat.le_of_ble_eq_true rfl) hQ ?_ rfl
      rintro o S3 ⟨v3_, rfl, hQ⟩
      show ev_E g m_X10_commandHere 6 0 31 [some (ev_o 10 a)] [ev_i (if v3_ = true then 1 else 0)] S3 Q
      by_cases c3 : v3_ = true
      · rw [if_pos c3]
        replace hQ := hQ.1 c3
        refine ev_if_eq 36 dX10_commandHere_31 (by decide) (fun h9 => absurd h9 (by decide : ¬ ((1 : Int32) = 0))) (fun _ => ?_)
        refine ev_iconst (2) dX10_commandHere_34 rfl ?_
        exact ev_ireturn .int dX10_commandHere_35 rfl rfl hQ
      · rw [if_neg c3]
        replace hQ := hQ.2 c3
        refine ev_if_eq 36 dX10_commandHere_31 (by decide) (fun _ => ?_) (fun h9 => absurd (by decide : ((0 : Int32) = 0)) h9)
        refine ev_aload_n (ev_o 10 a) dX10_commandHere_36 rfl rfl ?_
        refine ev_ldcw "days" 35 dX10_commandHere_37 (List.mem_of_getElem? (i := 35) rfl) (by decide) ?_
        refine ev_cV mv_X10_isWord 5 0 10 [ev_x 1 35] [] dX10_commandHere_40 kw_1790 rfl (by decide) rfl (by decide) (by decide) (Nat.le_of_ble_eq_true rfl) hQ ?_ rfl
        rintro o S4 ⟨v4_, rfl, hQ⟩
        show ev_E g m_X10_commandHere 6 0 43 [some (ev_o 10 a)] [ev_i (if v4_ = true then 1 else 0)] S4 Q
        by_cases c4 : v4_ = true
        · rw [if_pos c4]
          replace hQ := hQ.1 c4
          refine ev_if_eq 48 dX10_commandHere_43 (by decide) (fun h9 => absurd h9 (by decide : ¬ ((1 : Int32) = 0))) (fun _ => ?_)
          refine ev_iconst (3) dX10_commandHere_46 rfl ?_
          exact ev_ireturn .int dX10_commandHere_47 rfl rfl hQ
        · rw [if_neg c4]
          replace hQ := hQ.2 c4
          refine ev_if_eq 48 dX10_commandHere_43 (by decide) (fun _ => ?_) (fun h9 => absurd (by decide : ((0 : Int32) = 0)) h9)
          refine ev_aload_n (ev_o 10 a) dX10_commandHere_48 rfl rfl ?_
          refine ev_ldcw "mule" 36 dX10_commandHere_49 (List.mem_of_getElem? (i := 36) rfl) (by decide) ?_
          refine ev_cV mv_X10_isWord 5 0 10 [ev_x 1 36] [] dX10_commandHere_52 kw_1790 rfl (by decide) rfl (by decide) (by decide) (Nat.le_of_ble_eq_true rfl) hQ ?_ rfl
          rintro o S5 ⟨v5_, rfl, hQ⟩
          show ev_E g m_X10_commandHere 6 0 55 [some (ev_o 10 a)] [ev_i (if v5_ = true then 1 else 0)] S5 Q
          by_cases c5 : v5_ = true
          · rw [if_pos c5]
            replace hQ := hQ.1 c5
            refine ev_if_eq 60 dX10_commandHere_55 (by decide) (fun h9 => absurd h9 (by decide : ¬ ((1 : Int32) = 0))) (fun _ => ?_)
            refine ev_iconst (4) dX10_commandHere_58 rfl ?_
            exact ev_ireturn .int dX10_commandHere_59 rfl rfl hQ
          · rw [if_neg c5]
            replace hQ := hQ.2 c5
            refine ev_if_eq 60 dX10_commandHere_55 (by decide) (fun _ => ?_) (fun h9 => absurd (by decide : ((0 : Int32) = 0)) h9)
            refine ev_aload_n (ev_o 10 a) dX10_commandHere_60 rfl rfl ?_
            refine ev_ldc "snow" 31 dX10_commandHere_61 (List.mem_of_getElem? (i := 31) rfl) (by decide) ?_
            refine ev_cV mv_X10_isWord 5 0 10 [ev_x 1 31] [] dX10_commandHere_63 kw_1790 rfl (by decide) rfl (by decide) (by decide) (Nat.le_of_ble_eq_true rfl) hQ ?_ rfl
            rintro o S6 ⟨v6_, rfl, hQ⟩
            show ev_E g m_X10_commandHere 6 0 66 [some (ev_o 10 a)] [ev_i (if v6_ = true then 1 else 0)] S6 Q
            by_cases c6 : v6_ = true
            · rw [if_pos c6]
              replace hQ := hQ.1 c6
              refine ev_if_eq 71 dX10_commandHere_66 (by decide) (fun h9 => absurd h9 (by decide : ¬ ((1 : Int32) = 0))) (fun _ => ?_)
              refine ev_iconst (5) dX10_commandHere_69 rfl ?_
              exact ev_ireturn .int dX10_commandHere_70 rfl rfl hQ
            · rw [if_neg c6]
              replace hQ := hQ.2 c6
              refine ev_if_eq 71 dX10_commandHere_66 (by decide) (fun _ => ?_) (fun h9 => absurd (by decide : ((0 : Int32) = 0)) h9)
              refine ev_aload_n (ev_o 10 a) dX10_commandHere_71 rfl rfl ?_
              refine ev_ldcw "repeat" 37 dX10_commandHere_72 (List.mem_of_getElem? (i := 37) rfl) (by decide) ?_
              refine ev_cV mv_X10_isWord 5 0 10 [ev_x 1 37] [] dX10_commandHere_75 kw_1790 rfl (by decide) rfl (by decide) (by decide) (Nat.le_of_ble_eq_true rfl) hQ ?_ rfl
              rintro o S7 ⟨v7_, rfl, hQ⟩
              show ev_E g m_X10_commandHere 6 0 78 [some (ev_o 10 a)] [ev_i (if v7_ = true then 1 else 0)] S7 Q
              by_cases c7 : v7_ = true
              · rw [if_pos c7]
                replace hQ := hQ.1 c7
                refine ev_if_eq 86 dX10_commandHere_78 (by decide) (fun h9 => absurd h9 (by decide : ¬ ((1 : Int32) = 0))) (fun _ => ?_)
                refine ev_bipush (6) dX10_commandHere_81 (by decide) ?_
                refine ev_goto 87 dX10_commandHere_83 (by decide) ?_
                exact ev_ireturn .int dX10_commandHere_87 rfl rfl hQ
              · rw [if_neg c7]
                replace hQ := hQ.2 c7
                refine ev_if_eq 86 dX10_commandHere_78 (by decide) (fun _ => ?_) (fun h9 => absurd (by decide : ((0 : Int32) = 0)) h9)
                refine ev_iconst (-1) dX10_commandHere_86 rfl ?_
                exact ev_ireturn .int dX10_commandHere_87 rfl rfl hQ
set_option maxHeartbeats 4000000 in
set_option maxRecDepth 100000 in
theorem sg_X10_keepsNumber_0 {g : ev_G} {S : ev_S} {Q : ev_O → ev_S → Prop} (a : Nat) (x0 : Int32) (x1 : Int32) (x2 : Int32) (x3 : Int32) (hQ : ev_Cv g m_X10_number 4 0 [ev_o 10 a, ev_i x2, ev_i x3] S (fun o S1 => ∃ v1_ : Int32, o = .inl (some (ev_i v1_)) ∧ (
    (vp_in ((6 * x0) + x1) 180) ∧ (
      ∀ S2 : ev_S, S2 = (ev_up S1 (a + 9) ((6 * x0) + x1).toNatClampNeg v1_) → (
        Q (.inl none) S2))))) : ev_Cv g m_X10_keepsNumber 5 0 [ev_o 10 a, ev_i x0, ev_i x1, ev_i x2, ev_i x3] S Q := by
  refine ev_enter (by decide) rfl rfl (Nat.le_of_ble_eq_true rfl) ?_
  show ev_E g m_X10_keepsNumber 5 0 0 [some (ev_o 10 a), some (ev_i x0), some (ev_i x1), some (ev_i x2), some (ev_i x3)] [] S Q
  refine ev_aload_n (ev_o 10 a) dX10_keepsNumber_0 rfl rfl ?_
  refine gf_10_20 dX10_keepsNumber_1 kw_1873 ?_
  refine ev_bipush (6) dX10_keepsNumber_4 (by decide) ?_
  refine ev_iload_n (x0) dX10_keepsNumber_6 rfl ?_
  refine ev_imul dX10_keepsNumber_7 ?_
  refine ev_iload_n (x1) dX10_keepsNumber_8 rfl ?_
  refine ev_iadd dX10_keepsNumber_9 ?_
  refine ev_aload_n (ev_o 10 a) dX10_keepsNumber_10 rfl rfl ?_
  refine ev_iload_n (x2) dX10_keepsNumber_11 rfl ?_
  refine ev_iload (x3) dX10_keepsNumber_12 rfl ?_
  refine ev_cV mv_X10_number 4 0 10 [ev_i x2, ev_i x3] [ev_i ((6 * x0) + x1), ev_y 180 (a + 9)] dX10_keepsNumber_14 kw_1802 rfl (by decide) rfl (by decide) (by decide) (Nat.le_of_ble_eq_true rfl) hQ ?_ rfl
  rintro o S1 ⟨v1_, rfl, hQ⟩
  show ev_E g m_X10_keepsNumber 5 0 17 [some (ev_o 10 a), some (ev_i x0), some (ev_i x1), some (ev_i x2), some (ev_i x3)] [ev_i v1_, ev_i ((6 * x0) + x1), ev_y 180 (a + 9)] S1 Q
  obtain ⟨h1, hQ⟩ := hQ
  refine ev_iastore dX10_keepsNumber_17 h1 ?_
  refine ev_sub hQ (fun S2 hS2 hQ => ?_)
  refine ev_E.goal (pc' := 18) (L' := [some (ev_o 10 a), some (ev_i x0), some (ev_i x1), some (ev_i x2), some (ev_i x3)]) (K' := []) (S' := S2) ?_ rfl rfl rfl hS2
  exact ev_return dX10_keepsNumber_18 rfl hQ
set_option maxHeartbeats 4000000 in
set_option maxRecDepth 100000 in
theorem sg_X10_at_0 {g : ev_G} {S : ev_S} {Q : ev_O → ev_S → Prop} (a : Nat) (x0 : Int32) (x1 : Int32) (hQ : (vp_in ((6 * x0) + x1) 180) ∧ (
    Q (.inl (some (ev_i (S.1 (a + 9) ((6 * x0) + x1).toNatClampNeg)))) S)) : ev_Cv g m_X10_at 1 0 [ev_o 10 a, ev_i x0, ev_i x1] S Q := by
  refine ev_enter (by decide) rfl rfl (Nat.le_of_ble_eq_true rfl) ?_
  show ev_E g m_X10_at 1 0 0 [some (ev_o 10 a), some (ev_i x0), some (ev_i x1)] [] S Q
  refine ev_aload_n (ev_o 10 a) dX10_at_0 rfl rfl ?_
  refine gf_10_20 dX10_at_1 kw_1873 ?_
  refine ev_bipush (6) dX10_at_4 (by decide) ?_
  refine ev_iload_n (x0) dX10_at_6 rfl ?_
  refine ev_imul dX10_at_7 ?_
  refine ev_iload_n (x1) dX10_at_8 rfl ?_
  refine ev_iadd dX10_at_9 ?_
  obtain ⟨h1, hQ⟩ := hQ
  refine ev_iaload dX10_at_10 h1 ?_
  exact ev_ireturn .int dX10_at_11 rfl rfl hQ
set_option maxHeartbeats 4000000 in
set_option maxRecDepth 100000 in
theorem sp_X10_at {g : ev_G} {S : ev_S} (a : Nat) (x0 : Int32) (x1 : Int32) (q0 : vp_in ((6 * x0) + x1) 180) : ev_Fn g m_X10_at 1 [ev_o 10 a, ev_i x0, ev_i x1] S (some (ev_i (S.1 (a + 9) ((6 * x0) + x1).toNatClampNeg))) S := by
  intro Q hQ
  refine sg_X10_at_0 a x0 x1 ?_
  refine ⟨(q0), ?_⟩
  exact hQ
set_option maxHeartbeats 4000000 in
set_option maxRecDepth 100000 in
theorem sg_X10_readsSingle_0 {g : ev_G} {S : ev_S} {Q : ev_O → ev_S → Prop} (a : Nat) (x0 : Int32) (hQ : (vp_in x0 30) ∧ (
    ((S.1 (a + 8) x0.toNatClampNeg) = 0 → (
      ev_Cv g m_X10_keepsNumber 5 0 [ev_o 10 a, ev_i x0, ev_i 0, ev_i 0, ev_i 1] S (fun o S1 => o = .inl none ∧ (
        ev_Cv g m_X10_keepsNumber 5 0 [ev_o 10 a, ev_i x0, ev_i 1, ev_i 0, ev_i 63] S1 (fun o S2 => o = .inl none ∧ (
          ev_Cv g m_X10_keepsNumber 5 0 [ev_o 10 a, ev_i x0, ev_i 2, ev_i 0, ev_i 63] S2 (fun o S3 => o = .inl none ∧ (
            ev_Cv g m_X10_keepsNumber 5 0 [ev_o 10 a, ev_i x0, ev_i 3, ev_i 0, ev_i 3] S3 (fun o S4 => o = .inl none ∧ (
              Q (.inl none) S4)))))))))) ∧
    (¬ ((S.1 (a + 8) x0.toNatClampNeg) = 0) → (
      ((S.1 (a + 8) x0.toNatClampNeg) = 1 → (
        ev_Cv g m_X10_keepsNumber 5 0 [ev_o 10 a, ev_i x0, ev_i 0, ev_i 0, ev_i 1] S (fun o S5 => o = .inl none ∧ (
          ev_Cv g m_X10_keepsNumber 5 0 [ev_o 10 a, ev_i x0, ev_i 1, ev_i 0, ev_i 3] S5 (fun o S6 => o = .inl none ∧ (
            ev_E g m_X10_readsSingle 6 0 95 [some (ev_o 10 a), some (ev_i x0), some (ev_i 2)] [] S6 Q)))))) ∧
      (¬ ((S.1 (a + 8) x0.toNatClampNeg) = 1) → (
        ((S.1 (a + 8) x0.toNatClampNeg) = 2 → (
          ev_Cv g m_X10_keepsNumber 5 0 [ev_o 10 a, ev_i x0, ev_i 0, ev_i 0, ev_i 79] S (fun o S7 => o = .inl none ∧ (
            ev_Cv g m_X10_keepsNumber 5 0 [ev_o 10 a, ev_i x0, ev_i 1, ev_i 0, ev_i 3] S7 (fun o S8 => o = .inl none ∧ (
              Q (.inl none) S8)))))) ∧
        (¬ ((S.1 (a + 8) x0.toNatClampNeg) = 2) → (
          ((S.1 (a + 8) x0.toNatClampNeg) = 3 → (
            ev_Cv g m_X10_keepsNumber 5 0 [ev_o 10 a, ev_i x0, ev_i 0, ev_i 1, ev_i 60] S (fun o S9 => o = .inl none ∧ (
              Q (.inl none) S9)))) ∧
          (¬ ((S.1 (a + 8) x0.toNatClampNeg) = 3) → (
            ((S.1 (a + 8) x0.toNatClampNeg) = 4 → (
              ev_Cv g m_X10_keepsNumber 5 0 [ev_o 10 a, ev_i x0, ev_i 0, ev_i 0, ev_i 3] S (fun o S10 => o = .inl none ∧ (
                ev_Cv g m_X10_keepsNumber 5 0 [ev_o 10 a, ev_i x0, ev_i 1, ev_i 0, ev_i 1] S10 (fun o S11 => o = .inl none ∧ (
                  Q (.inl none) S11)))))) ∧
            (¬ ((S.1 (a + 8) x0.toNatClampNeg) = 4) → (
              ev_Cv g m_X10_keepsNumber 5 0 [ev_o 10 a, ev_i x0, ev_i 0, ev_i 0, ev_i 3] S (fun o S12 => o = .inl none ∧ (
                ev_Cv g m_X10_keepsNumber 5 0 [ev_o 10 a, ev_i x0, ev_i 1, ev_i 0, ev_i 11] S12 (fun o S13 => o = .inl none ∧ (
                  ev_Cv g m_X10_keepsNumber 5 0 [ev_o 10 a, ev_i x0, ev_i 2, ev_i 0, ev_i 9] S13 (fun o S14 => o = .inl none ∧ (
                    Q (.inl none) S14)))))))))))))))))) : ev_Cv g m_X10_readsSingle 6 0 [ev_o 10 a, ev_i x0] S Q := by
  refine ev_enter (by decide) rfl rfl (Nat.le_of_ble_eq_true rfl) ?_
  show ev_E g m_X10_readsSingle 6 0 0 [some (ev_o 10 a), some (ev_i x0), none] [] S Q
  refine ev_aload_n (ev_o 10 a) dX10_readsSingle_0 rfl rfl ?_
  refine gf_10_19 dX10_readsSingle_1 kw_1872 ?_
  refine ev_iload_n (x0) dX10_readsSingle_4 rfl ?_
  obtain ⟨h1, hQ⟩ := hQ
  refine ev_iaload dX10_readsSingle_5 h1 ?_
  by_cases c1 : (S.1 (a + 8) x0.toNatClampNeg) = 0
  · replace hQ := hQ.1 c1
    refine ev_tableIn (off := 34) 40 dX10_readsSingle_6 (by rw [c1]; decide) (by rw [c1]; decide) (by rw [c1]; rfl) (by decide) ?_
    refine ev_aload_n (ev_o 10 a) dX10_readsSingle_40 rfl rfl ?_
    refine ev_iload_n (x0) dX10_readsSingle_41 rfl ?_
    refine ev_iconst (0) dX10_readsSingle_42 rfl ?_
    refine ev_iconst (0) dX10_readsSingle_43 rfl ?_
    refine ev_iconst (1) dX10_readsSingle_44 rfl ?_
    refine ev_cV mv_X10_keepsNumber 5 0 10 [ev_i x0, ev_i 0, ev_i 0, ev_i 1] [] dX10_readsSingle_45 kw_2001 rfl (by decide) rfl (by decide) (by decide) (Nat.le_of_ble_eq_true rfl) hQ ?_ rfl
    rintro o S1 ⟨rfl, hQ⟩
    show ev_E g m_X10_readsSingle 6 0 48 [some (ev_o 10 a), some (ev_i x0), none] [] S1 Q
    refine ev_aload_n (ev_o 10 a) dX10_readsSingle_48 rfl rfl ?_
    refine ev_iload_n (x0) dX10_readsSingle_49 rfl ?_
    refine ev_iconst (1) dX10_readsSingle_50 rfl ?_
    refine ev_iconst (0) dX10_readsSingle_51 rfl ?_
    refine ev_bipush (63) dX10_readsSingle_52 (by decide) ?_
    refine ev_cV mv_X10_keepsNumber 5 0 10 [ev_i x0, ev_i 1, ev_i 0, ev_i 63] [] dX10_readsSingle_54 kw_2001 rfl (by decide) rfl (by decide) (by decide) (Nat.le_of_ble_eq_true rfl) hQ ?_ rfl
    rintro o S2 ⟨rfl, hQ⟩
    show ev_E g m_X10_readsSingle 6 0 57 [some (ev_o 10 a), some (ev_i x0), none] [] S2 Q
    refine ev_aload_n (ev_o 10 a) dX10_readsSingle_57 rfl rfl ?_
    refine ev_iload_n (x0) dX10_readsSingle_58 rfl ?_
    refine ev_iconst (2) dX10_readsSingle_59 rfl ?_
    refine ev_iconst (0) dX10_readsSingle_60 rfl ?_
    refine ev_bipush (63) dX10_readsSingle_61 (by decide) ?_
    refine ev_cV mv_X10_keepsNumber 5 0 10 [ev_i x0, ev_i 2, ev_i 0, ev_i 63] [] dX10_readsSingle_63 kw_2001 rfl (by decide) rfl (by decide) (by decide) (Nat.le_of_ble_eq_true rfl) hQ ?_ rfl
    rintro o S3 ⟨rfl, hQ⟩
    show ev_E g m_X10_readsSingle 6 0 66 [some (ev_o 10 a), some (ev_i x0), none] [] S3 Q
    refine ev_aload_n (ev_o 10 a) dX10_readsSingle_66 rfl rfl ?_
    refine ev_iload_n (x0) dX10_readsSingle_67 rfl ?_
    refine ev_iconst (3) dX10_readsSingle_68 rfl ?_
    refine ev_iconst (0) dX10_readsSingle_69 rfl ?_
    refine ev_iconst (3) dX10_readsSingle_70 rfl ?_
    refine ev_cV mv_X10_keepsNumber 5 0 10 [ev_i x0, ev_i 3, ev_i 0, ev_i 3] [] dX10_readsSingle_71 kw_2001 rfl (by decide) rfl (by decide) (by decide) (Nat.le_of_ble_eq_true rfl) hQ ?_ rfl
    rintro o S4 ⟨rfl, hQ⟩
    show ev_E g m_X10_readsSingle 6 0 74 [some (ev_o 10 a), some (ev_i x0), none] [] S4 Q
    refine ev_goto 196 dX10_readsSingle_74 (by decide) ?_
    exact ev_return dX10_readsSingle_196 rfl hQ
  · replace hQ := hQ.2 c1
    by_cases c2 : (S.1 (a + 8) x0.toNatClampNeg) = 1
    · replace hQ := hQ.1 c2
      refine ev_tableIn (off := 71) 77 dX10_readsSingle_6 (by rw [c2]; decide) (by rw [c2]; decide) (by rw [c2]; rfl) (by decide) ?_
      refine ev_aload_n (ev_o 10 a) dX10_readsSingle_77 rfl rfl ?_
      refine ev_iload_n (x0) dX10_readsSingle_78 rfl ?_
      refine ev_iconst (0) dX10_readsSingle_79 rfl ?_
      refine ev_iconst (0) dX10_readsSingle_80 rfl ?_
      refine ev_iconst (1) dX10_readsSingle_81 rfl ?_
      refine ev_cV mv_X10_keepsNumber 5 0 10 [ev_i x0, ev_i 0, ev_i 0, ev_i 1] [] dX10_readsSingle_82 kw_2001 rfl (by decide) rfl (by decide) (by decide) (Nat.le_of_ble_eq_true rfl) hQ ?_ rfl
      rintro o S5 ⟨rfl, hQ⟩
      show ev_E g m_X10_readsSingle 6 0 85 [some (ev_o 10 a), some (ev_i x0), none] [] S5 Q
      refine ev_aload_n (ev_o 10 a) dX10_readsSingle_85 rfl rfl ?_
      refine ev_iload_n (x0) dX10_readsSingle_86 rfl ?_
      refine ev_iconst (1) dX10_readsSingle_87 rfl ?_
      refine ev_iconst (0) dX10_readsSingle_88 rfl ?_
      refine ev_iconst (3) dX10_readsSingle_89 rfl ?_
      refine ev_cV mv_X10_keepsNumber 5 0 10 [ev_i x0, ev_i 1, ev_i 0, ev_i 3] [] dX10_readsSingle_90 kw_2001 rfl (by decide) rfl (by decide) (by decide) (Nat.le_of_ble_eq_true rfl) hQ ?_ rfl
      rintro o S6 ⟨rfl, hQ⟩
      show ev_E g m_X10_readsSingle 6 0 93 [some (ev_o 10 a), some (ev_i x0), none] [] S6 Q
      refine ev_iconst (2) dX10_readsSingle_93 rfl ?_
      refine ev_istore_n dX10_readsSingle_94 (Nat.le_of_ble_eq_true rfl) (ev_hw rfl) ?_
      show ev_E g m_X10_readsSingle 6 0 95 [some (ev_o 10 a), some (ev_i x0), some (ev_i 2)] [] S6 Q
      exact hQ
    · replace hQ := hQ.2 c2
      by_cases c3 : (S.1 (a + 8) x0.toNatClampNeg) = 2
      · replace hQ := hQ.1 c3
        refine ev_tableIn (off := 113) 119 dX10_readsSingle_6 (by rw [c3]; decide) (by rw [c3]; decide) (by rw [c3]; rfl) (by decide) ?_
        refine ev_aload_n (ev_o 10 a) dX10_readsSingle_119 rfl rfl ?_
        refine ev_iload_n (x0) dX10_readsSingle_120 rfl ?_
        refine ev_iconst (0) dX10_readsSingle_121 rfl ?_
        refine ev_iconst (0) dX10_readsSingle_122 rfl ?_
        refine ev_bipush (79) dX10_readsSingle_123 (by decide) ?_
        refine ev_cV mv_X10_keepsNumber 5 0 10 [ev_i x0, ev_i 0, ev_i 0, ev_i 79] [] dX10_readsSingle_125 kw_2001 rfl (by decide) rfl (by decide) (by decide) (Nat.le_of_ble_eq_true rfl) hQ ?_ rfl
        rintro o S7 ⟨rfl, hQ⟩
        show ev_E g m_X10_readsSingle 6 0 128 [some (ev_o 10 a), some (ev_i x0), none] [] S7 Q
        refine ev_aload_n (ev_o 10 a) dX10_readsSingle_128 rfl rfl ?_
        refine ev_iload_n (x0) dX10_readsSingle_129 rfl ?_
        refine ev_iconst (1) dX10_readsSingle_130 rfl ?_
        refine ev_iconst (0) dX10_readsSingle_131 rfl ?_
        refine ev_iconst (3) dX10_readsSingle_132 rfl ?_
        refine ev_cV mv_X10_keepsNumber 5 0 10 [ev_i x0, ev_i 1, ev_i 0, ev_i 3] [] dX10_readsSingle_133 kw_2001 rfl (by decide) rfl (by decide) (by decide) (Nat.le_of_ble_eq_true rfl) hQ ?_ rfl
        rintro o S8 ⟨rfl, hQ⟩
        show ev_E g m_X10_readsSingle 6 0 136 [some (ev_o 10 a), some (ev_i x0), none] [] S8 Q
        refine ev_goto 196 dX10_readsSingle_136 (by decide) ?_
        exact ev_return dX10_readsSingle_196 rfl hQ
      · replace hQ := hQ.2 c3
        by_cases c4 : (S.1 (a + 8) x0.toNatClampNeg) = 3
        · replace hQ := hQ.1 c4
          refine ev_tableIn (off := 133) 139 dX10_readsSingle_6 (by rw [c4]; decide) (by rw [c4]; decide) (by rw [c4]; rfl) (by decide) ?_
          refine ev_aload_n (ev_o 10 a) dX10_readsSingle_139 rfl rfl ?_
          refine ev_iload_n (x0) dX10_readsSingle_140 rfl ?_
          refine ev_iconst (0) dX10_readsSingle_141 rfl ?_
          refine ev_iconst (1) dX10_readsSingle_142 rfl ?_
          refine ev_bipush (60) dX10_readsSingle_143 (by decide) ?_
          refine ev_cV mv_X10_keepsNumber 5 0 10 [ev_i x0, ev_i 0, ev_i 1, ev_i 60] [] dX10_readsSingle_145 kw_2001 rfl (by decide) rfl (by decide) (by decide) (Nat.le_of_ble_eq_true rfl) hQ ?_ rfl
          rintro o S9 ⟨rfl, hQ⟩
          show ev_E g m_X10_readsSingle 6 0 148 [some (ev_o 10 a), some (ev_i x0), none] [] S9 Q
          refine ev_goto 196 dX10_readsSingle_148 (by decide) ?_
          exact ev_return dX10_readsSingle_196 rfl hQ
        · replace hQ := hQ.2 c4
          by_cases c5 : (S.1 (a + 8) x0.toNatClampNeg) = 4
          · replace hQ := hQ.1 c5
            refine ev_tableIn (off := 145) 151 dX10_readsSingle_6 (by rw [c5]; decide) (by rw [c5]; decide) (by rw [c5]; rfl) (by decide) ?_
            refine ev_aload_n (ev_o 10 a) dX10_readsSingle_151 rfl rfl ?_
            refine ev_iload_n (x0) dX10_readsSingle_152 rfl ?_
            refine ev_iconst (0) dX10_readsSingle_153 rfl ?_
            refine ev_iconst (0) dX10_readsSingle_154 rfl ?_
            refine ev_iconst (3) dX10_readsSingle_155 rfl ?_
            refine ev_cV mv_X10_keepsNumber 5 0 10 [ev_i x0, ev_i 0, ev_i 0, ev_i 3] [] dX10_readsSingle_156 kw_2001 rfl (by decide) rfl (by decide) (by decide) (Nat.le_of_ble_eq_true rfl) hQ ?_ rfl
            rintro o S10 ⟨rfl, hQ⟩
            show ev_E g m_X10_readsSingle 6 0 159 [some (ev_o 10 a), some (ev_i x0), none] [] S10 Q
            refine ev_aload_n (ev_o 10 a) dX10_readsSingle_159 rfl rfl ?_
            refine ev_iload_n (x0) dX10_readsSingle_160 rfl ?_
            refine ev_iconst (1) dX10_readsSingle_161 rfl ?_
            refine ev_iconst (0) dX10_readsSingle_162 rfl ?_
            refine ev_iconst (1) dX10_readsSingle_163 rfl ?_
            refine ev_cV mv_X10_keepsNumber 5 0 10 [ev_i x0, ev_i 1, ev_i 0, ev_i 1] [] dX10_readsSingle_164 kw_2001 rfl (by decide) rfl (by decide) (by decide) (Nat.le_of_ble_eq_true rfl) hQ ?_ rfl
            rintro o S11 ⟨rfl, hQ⟩
            show ev_E g m_X10_readsSingle 6 0 167 [some (ev_o 10 a), some (ev_i x0), none] [] S11 Q
            refine ev_goto 196 dX10_readsSingle_167 (by decide) ?_
            exact ev_return dX10_readsSingle_196 rfl hQ
          · replace hQ := hQ.2 c5
            refine ev_tableOut 170 dX10_readsSingle_6 (j_out0 (fun k h1 h2 h3 => by
                have h4 : k = 0 ∨ k = 1 ∨ k = 2 ∨ k = 3 ∨ k = 4 := by omega
                rcases h4 with rfl | rfl | rfl | rfl | rfl
                · exact c1 (h3.trans (by decide))
                · exact c2 (h3.trans (by decide))
                · exact c3 (h3.trans (by decide))
                · exact c4 (h3.trans (by decide))
                · exact c5 (h3.trans (by decide)))) (by decide) ?_
            refine ev_aload_n (ev_o 10 a) dX10_readsSingle_170 rfl rfl ?_
            refine ev_iload_n (x0) dX10_readsSingle_171 rfl ?_
            refine ev_iconst (0) dX10_readsSingle_172 rfl ?_
            refine ev_iconst (0) dX10_readsSingle_173 rfl ?_
            refine ev_iconst (3) dX10_readsSingle_174 rfl ?_
            refine ev_cV mv_X10_keepsNumber 5 0 10 [ev_i x0, ev_i 0, ev_i 0, ev_i 3] [] dX10_readsSingle_175 kw_2001 rfl (by decide) rfl (by decide) (by decide) (Nat.le_of_ble_eq_true rfl) hQ ?_ rfl
            rintro o S12 ⟨rfl, hQ⟩
            show ev_E g m_X10_readsSingle 6 0 178 [some (ev_o 10 a), some (ev_i x0), none] [] S12 Q
            refine ev_aload_n (ev_o 10 a) dX10_readsSingle_178 rfl rfl ?_
            refine ev_iload_n (x0) dX10_readsSingle_179 rfl ?_
            refine ev_iconst (1) dX10_readsSingle_180 rfl ?_
            refine ev_iconst (0) dX10_readsSingle_181 rfl ?_
            refine ev_bipush (11) dX10_readsSingle_182 (by decide) ?_
            refine ev_cV mv_X10_keepsNumber 5 0 10 [ev_i x0, ev_i 1, ev_i 0, ev_i 11] [] dX10_readsSingle_184 kw_2001 rfl (by decide) rfl (by decide) (by decide) (Nat.le_of_ble_eq_true rfl) hQ ?_ rfl
            rintro o S13 ⟨rfl, hQ⟩
            show ev_E g m_X10_readsSingle 6 0 187 [some (ev_o 10 a), some (ev_i x0), none] [] S13 Q
            refine ev_aload_n (ev_o 10 a) dX10_readsSingle_187 rfl rfl ?_
            refine ev_iload_n (x0) dX10_readsSingle_188 rfl ?_
            refine ev_iconst (2) dX10_readsSingle_189 rfl ?_
            refine ev_iconst (0) dX10_readsSingle_190 rfl ?_
            refine ev_bipush (9) dX10_readsSingle_191 (by decide) ?_
            refine ev_cV mv_X10_keepsNumber 5 0 10 [ev_i x0, ev_i 2, ev_i 0, ev_i 9] [] dX10_readsSingle_193 kw_2001 rfl (by decide) rfl (by decide) (by decide) (Nat.le_of_ble_eq_true rfl) hQ ?_ rfl
            rintro o S14 ⟨rfl, hQ⟩
            show ev_E g m_X10_readsSingle 6 0 196 [some (ev_o 10 a), some (ev_i x0), none] [] S14 Q
            exact ev_return dX10_readsSingle_196 rfl hQ
set_option maxHeartbeats 4000000 in
set_option maxRecDepth 100000 in
theorem sg_X10_readsSingle_95 {g : ev_G} {S : ev_S} {Q : ev_O → ev_S → Prop} (a : Nat) (u1 : Int32) (u2 : Int32) (hQ : (6 ≤ u2 → (
    Q (.inl none) S)) ∧
  (¬ (6 ≤ u2) → (
    ev_Cv g m_X10_keepsNumber 5 0 [ev_o 10 a, ev_i u1, ev_i u2, ev_i 0, ev_i 63] S (fun o S1 => o = .inl none ∧ (
      ev_E g m_X10_readsSingle 6 0 95 [some (ev_o 10 a), some (ev_i u1), some (ev_i (u2 + 1))] [] S1 Q))))) : ev_E g m_X10_readsSingle 6 0 95 [some (ev_o 10 a), some (ev_i u1), some (ev_i u2)] [] S Q := by
  refine ev_iload_n (u2) dX10_readsSingle_95 rfl ?_
  refine ev_bipush (6) dX10_readsSingle_96 (by decide) ?_
  refine ev_icmp_ge 116 dX10_readsSingle_98 (by decide) (fun c1 => ?_) (fun c1 => ?_)
  · replace hQ := hQ.1 c1
    refine ev_goto 196 dX10_readsSingle_116 (by decide) ?_
    exact ev_return dX10_readsSingle_196 rfl hQ
  · replace hQ := hQ.2 c1
    refine ev_aload_n (ev_o 10 a) dX10_readsSingle_101 rfl rfl ?_
    refine ev_iload_n (u1) dX10_readsSingle_102 rfl ?_
    refine ev_iload_n (u2) dX10_readsSingle_103 rfl ?_
    refine ev_iconst (0) dX10_readsSingle_104 rfl ?_
    refine ev_bipush (63) dX10_readsSingle_105 (by decide) ?_
    refine ev_cV mv_X10_keepsNumber 5 0 10 [ev_i u1, ev_i u2, ev_i 0, ev_i 63] [] dX10_readsSingle_107 kw_2001 rfl (by decide) rfl (by decide) (by decide) (Nat.le_of_ble_eq_true rfl) hQ ?_ rfl
    rintro o S1 ⟨rfl, hQ⟩
    show ev_E g m_X10_readsSingle 6 0 110 [some (ev_o 10 a), some (ev_i u1), some (ev_i u2)] [] S1 Q
    refine ev_iinc u2 (1) dX10_readsSingle_110 rfl (by decide) (ev_hw rfl) ?_
    show ev_E g m_X10_readsSingle 6 0 113 [some (ev_o 10 a), some (ev_i u1), some (ev_i (u2 + 1))] [] S1 Q
    refine ev_goto 95 dX10_readsSingle_113 (by decide) ?_
    exact hQ
set_option maxHeartbeats 4000000 in
set_option maxRecDepth 100000 in
theorem sg_X10_readsCommand_0 {g : ev_G} {S : ev_S} {Q : ev_O → ev_S → Prop} {D : Nat} (hD : 20 ≤ D) (a : Nat) (x0 : Int32) (hQ : ev_Cv g m_X10_commandHere 6 0 [ev_o 10 a] S (fun o S1 => ∃ v1_ : Int32, o = .inl (some (ev_i v1_)) ∧ (
    (v1_ = (-1) → (
      ev_Cv g m_X10_must 1 0 [ev_o 10 a, ev_i 0, ev_i 1] S1 (fun o S2 => ∃ v2_ : Bool, o = .inl (some (ev_i (if v2_ = true then 1 else 0))) ∧ (
        (v2_ = true → (
          (30 ≤ (S2.1 a 21) → (
            ev_Cv g m_X10_must 1 0 [ev_o 10 a, ev_i 0, ev_i 4] S2 (fun o S3 => ∃ v3_ : Bool, o = .inl (some (ev_i (if v3_ = true then 1 else 0))) ∧ (
              (v3_ = true → (
                (vp_in (S3.1 a 21) 30) ∧ (
                  ∀ S4 : ev_S, S4 = (ev_up S3 (a + 8) (S3.1 a 21).toNatClampNeg v1_) → (
                    ∀ S5 : ev_S, S5 = (ev_up S4 a 21 ((S3.1 a 21) + 1)) → (
                      ev_Cv g m_X10_reads 2 0 [ev_o 10 a] S5 (fun o S6 => o = .inl none ∧ (
                        ev_Cv g m_X10_readsSingle 6 0 [ev_o 10 a, ev_i (S3.1 a 21)] S6 (fun o S7 => o = .inl none ∧ (
                          ev_Cv g m_X10_takesSign 4 0 [ev_o 10 a, ev_i 59] S7 (fun o S8 => o = .inl none ∧ (
                            Q (.inl none) S8))))))))))) ∧
              (¬ (v3_ = true) → (
                Q (.inl none) S3)))))) ∧
          (¬ (30 ≤ (S2.1 a 21)) → (
            ev_Cv g m_X10_must 1 0 [ev_o 10 a, ev_i 1, ev_i 4] S2 (fun o S9 => ∃ v7_ : Bool, o = .inl (some (ev_i (if v7_ = true then 1 else 0))) ∧ (
              (v7_ = true → (
                (vp_in (S9.1 a 21) 30) ∧ (
                  ∀ S10 : ev_S, S10 = (ev_up S9 (a + 8) (S9.1 a 21).toNatClampNeg v1_) → (
                    ∀ S11 : ev_S, S11 = (ev_up S10 a 21 ((S9.1 a 21) + 1)) → (
                      ev_Cv g m_X10_reads 2 0 [ev_o 10 a] S11 (fun o S12 => o = .inl none ∧ (
                        ev_Cv g m_X10_readsSingle 6 0 [ev_o 10 a, ev_i (S9.1 a 21)] S12 (fun o S13 => o = .inl none ∧ (
                          ev_Cv g m_X10_takesSign 4 0 [ev_o 10 a, ev_i 59] S13 (fun o S14 => o = .inl none ∧ (
                            Q (.inl none) S14))))))))))) ∧
              (¬ (v7_ = true) → (
                Q (.inl none) S9)))))))) ∧
        (¬ (v2_ = true) → (
          Q (.inl none) S2)))))) ∧
    (¬ (v1_ = (-1)) → (
      ev_Cv g m_X10_must 1 0 [ev_o 10 a, ev_i 1, ev_i 1] S1 (fun o S15 => ∃ v11_ : Bool, o = .inl (some (ev_i (if v11_ = true then 1 else 0))) ∧ (
        (v11_ = true → (
          (30 ≤ (S15.1 a 21) → (
            ev_Cv g m_X10_must 1 0 [ev_o 10 a, ev_i 0, ev_i 4] S15 (fun o S16 => ∃ v12_ : Bool, o = .inl (some (ev_i (if v12_ = true then 1 else 0))) ∧ (
              (v12_ = true → (
                (vp_in (S16.1 a 21) 30) ∧ (
                  ∀ S17 : ev_S, S17 = (ev_up S16 (a + 8) (S16.1 a 21).toNatClampNeg v1_) → (
                    ∀ S18 : ev_S, S18 = (ev_up S17 a 21 ((S16.1 a 21) + 1)) → (
                      ev_Cv g m_X10_reads 2 0 [ev_o 10 a] S18 (fun o S19 => o = .inl none ∧ (
                        (v1_ = 6 → (
                          ev_Cv g m_X10_readsRepeat (D + 1) 0 [ev_o 10 a, ev_i (S16.1 a 21), ev_i x0] S19 (fun o S22 => o = .inl none ∧ (
                            ev_Cv g m_X10_takesSign 4 0 [ev_o 10 a, ev_i 59] S22 (fun o S23 => o = .inl none ∧ (
                              Q (.inl none) S23)))))) ∧
                        (¬ (v1_ = 6) → (
                          ev_Cv g m_X10_readsSingle 6 0 [ev_o 10 a, ev_i (S16.1 a 21)] S19 (fun o S20 => o = .inl none ∧ (
                            ev_Cv g m_X10_takesSign 4 0 [ev_o 10 a, ev_i 59] S20 (fun o S21 => o = .inl none ∧ (
                              Q (.inl none) S21))))))))))))) ∧
              (¬ (v12_ = true) → (
                Q (.inl none) S16)))))) ∧
          (¬ (30 ≤ (S15.1 a 21)) → (
            ev_Cv g m_X10_must 1 0 [ev_o 10 a, ev_i 1, ev_i 4] S15 (fun o S24 => ∃ v18_ : Bool, o = .inl (some (ev_i (if v18_ = true then 1 else 0))) ∧ (
              (v18_ = true → (
                (vp_in (S24.1 a 21) 30) ∧ (
                  ∀ S25 : ev_S, S25 = (ev_up S24 (a + 8) (S24.1 a 21).toNatClampNeg v1_) → (
                    ∀ S26 : ev_S, S26 = (ev_up S25 a 21 ((S24.1 a 21) + 1)) → (
                      ev_Cv g m_X10_reads 2 0 [ev_o 10 a] S26 (fun o S27 => o = .inl none ∧ (
                        (v1_ = 6 → (
                          ev_Cv g m_X10_readsRepeat (D + 1) 0 [ev_o 10 a, ev_i (S24.1 a 21), ev_i x0] S27 (fun o S30 => o = .inl none ∧ (
                            ev_Cv g m_X10_takesSign 4 0 [ev_o 10 a, ev_i 59] S30 (fun o S31 => o = .inl none ∧ (
                              Q (.inl none) S31)))))) ∧
                        (¬ (v1_ = 6) → (
                          ev_Cv g m_X10_readsSingle 6 0 [ev_o 10 a, ev_i (S24.1 a 21)] S27 (fun o S28 => o = .inl none ∧ (
                            ev_Cv g m_X10_takesSign 4 0 [ev_o 10 a, ev_i 59] S28 (fun o S29 => o = .inl none ∧ (
                              Q (.inl none) S29))))))))))))) ∧
              (¬ (v18_ = true) → (
                Q (.inl none) S24)))))))) ∧
        (¬ (v11_ = true) → (
          Q (.inl none) S15))))))))) : ev_Cv g m_X10_readsCommand (D + 2) 0 [ev_o 10 a, ev_i x0] S Q := by
  refine ev_enter (by decide) rfl rfl (Nat.le_of_ble_eq_true rfl) ?_
  show ev_E g m_X10_readsCommand (D + 2) 0 0 [some (ev_o 10 a), some (ev_i x0), none, none] [] S Q
  refine ev_aload_n (ev_o 10 a) dX10_readsCommand_0 rfl rfl ?_
  refine ev_cV mv_X10_commandHere 6 0 10 [] [] dX10_readsCommand_1 kw_1987 rfl (by decide) rfl (by omega) (by decide) (Nat.le_of_ble_eq_true rfl) hQ ?_ rfl
  rintro o S1 ⟨v1_, rfl, hQ⟩
  show ev_E g m_X10_readsCommand (D + 2) 0 4 [some (ev_o 10 a), some (ev_i x0), none, none] [ev_i v1_] S1 Q
  refine ev_istore_n dX10_readsCommand_4 (Nat.le_of_ble_eq_true rfl) (ev_hw rfl) ?_
  show ev_E g m_X10_readsCommand (D + 2) 0 5 [some (ev_o 10 a), some (ev_i x0), some (ev_i v1_), none] [] S1 Q
  refine ev_aload_n (ev_o 10 a) dX10_readsCommand_5 rfl rfl ?_
  refine ev_iload_n (v1_) dX10_readsCommand_6 rfl ?_
  refine ev_iconst (-1) dX10_readsCommand_7 rfl ?_
  refine ev_icmp_eq 15 dX10_readsCommand_8 (by decide) (fun c1 => ?_) (fun c1 => ?_)
  · replace hQ := hQ.1 c1
    refine ev_iconst (0) dX10_readsCommand_15 rfl ?_
    refine ev_iconst (1) dX10_readsCommand_16 rfl ?_
    refine ev_cV mv_X10_must 1 0 10 [ev_i 0, ev_i 1] [] dX10_readsCommand_17 kw_1794 rfl (by decide) rfl (by omega) (by decide) (Nat.le_of_ble_eq_true rfl) hQ ?_ rfl
    rintro o S2 ⟨v2_, rfl, hQ⟩
    show ev_E g m_X10_readsCommand (D + 2) 0 20 [some (ev_o 10 a), some (ev_i x0), some (ev_i v1_), none] [ev_i (if v2_ = true then 1 else 0)] S2 Q
    by_cases c2 : v2_ = true
    · rw [if_pos c2]
      replace hQ := hQ.1 c2
      refine ev_if_eq 45 dX10_readsCommand_20 (by decide) (fun h9 => absurd h9 (by decide : ¬ ((1 : Int32) = 0))) (fun _ => ?_)
      refine ev_aload_n (ev_o 10 a) dX10_readsCommand_23 rfl rfl ?_
      refine ev_aload_n (ev_o 10 a) dX10_readsCommand_24 rfl rfl ?_
      refine gf_10_21 dX10_readsCommand_25 kw_1874 ?_
      refine ev_bipush (30) dX10_readsCommand_28 (by decide) ?_
      refine ev_icmp_ge 37 dX10_readsCommand_30 (by decide) (fun c3 => ?_) (fun c3 => ?_)
      · replace hQ := hQ.1 c3
        refine ev_iconst (0) dX10_readsCommand_37 rfl ?_
        refine ev_iconst (4) dX10_readsCommand_38 rfl ?_
        refine ev_cV mv_X10_must 1 0 10 [ev_i 0, ev_i 4] [] dX10_readsCommand_39 kw_1794 rfl (by decide) rfl (by omega) (by decide) (Nat.le_of_ble_eq_true rfl) hQ ?_ rfl
        rintro o S3 ⟨v3_, rfl, hQ⟩
        show ev_E g m_X10_readsCommand (D + 2) 0 42 [some (ev_o 10 a), some (ev_i x0), some (ev_i v1_), none] [ev_i (if v3_ = true then 1 else 0)] S3 Q
        by_cases c4 : v3_ = true
        · rw [if_pos c4]
          replace hQ := hQ.1 c4
          refine ev_if_ne 46 dX10_readsCommand_42 (by decide) (fun _ => ?_) (fun h9 => absurd h9 (by decide : ¬ ((1 : Int32) = 0)))
          refine ev_aload_n (ev_o 10 a) dX10_readsCommand_46 rfl rfl ?_
          refine gf_10_21 dX10_readsCommand_47 kw_1874 ?_
          refine ev_istore_n dX10_readsCommand_50 (Nat.le_of_ble_eq_true rfl) (ev_hw rfl) ?_
          show ev_E g m_X10_readsCommand (D + 2) 0 51 [some (ev_o 10 a), some (ev_i x0), some (ev_i v1_), some (ev_i (S3.1 a 21))] [] S3 Q
          refine ev_aload_n (ev_o 10 a) dX10_readsCommand_51 rfl rfl ?_
          refine gf_10_19 dX10_readsCommand_52 kw_1872 ?_
          refine ev_iload_n ((S3.1 a 21)) dX10_readsCommand_55 rfl ?_
          refine ev_iload_n (v1_) dX10_readsCommand_56 rfl ?_
          obtain ⟨h1, hQ⟩ := hQ
          refine ev_iastore dX10_readsCommand_57 h1 ?_
          refine ev_sub hQ (fun S4 hS4 hQ => ?_)
          refine ev_E.goal (pc' := 58) (L' := [some (ev_o 10 a), some (ev_i x0), some (ev_i v1_), some (ev_i (S3.1 a 21))]) (K' := []) (S' := S4) ?_ rfl rfl rfl hS4
          refine ev_aload_n (ev_o 10 a) dX10_readsCommand_58 rfl rfl ?_
          refine ev_dup dX10_readsCommand_59 rfl ?_
          refine gf_10_21 dX10_readsCommand_60 kw_1874 ?_
          refine ev_ke (j_rk hS4 (Or.inl (by omega))) ?_
          refine ev_iconst (1) dX10_readsCommand_63 rfl ?_
          refine ev_iadd dX10_readsCommand_64 ?_
          refine pf_10_21 dX10_readsCommand_65 kw_1874 ?_
          refine ev_sub hQ (fun S5 hS5 hQ => ?_)
          refine ev_E.goal (pc' := 68) (L' := [some (ev_o 10 a), some (ev_i x0), some (ev_i v1_), some (ev_i (S3.1 a 21))]) (K' := []) (S' := S5) ?_ rfl rfl rfl hS5
          refine ev_aload_n (ev_o 10 a) dX10_readsCommand_68 rfl rfl ?_
          refine ev_cV mv_X10_reads 2 0 10 [] [] dX10_readsCommand_69 kw_1773 rfl (by decide) rfl (by omega) (by decide) (Nat.le_of_ble_eq_true rfl) hQ ?_ rfl
          rintro o S6 ⟨rfl, hQ⟩
          show ev_E g m_X10_readsCommand (D + 2) 0 72 [some (ev_o 10 a), some (ev_i x0), some (ev_i v1_), some (ev_i (S3.1 a 21))] [] S6 Q
          refine ev_iload_n (v1_) dX10_readsCommand_72 rfl ?_
          refine ev_bipush (6) dX10_readsCommand_73 (by decide) ?_
          refine ev_icmp_ne 87 dX10_readsCommand_75 (by decide) (fun _ => ?_) (fun h9 => absurd h9 (by rw [c1]; decide : ¬ (v1_ = 6)))
          refine ev_aload_n (ev_o 10 a) dX10_readsCommand_87 rfl rfl ?_
          refine ev_iload_n ((S3.1 a 21)) dX10_readsCommand_88 rfl ?_
          refine ev_cV mv_X10_readsSingle 6 0 10 [ev_i (S3.1 a 21)] [] dX10_readsCommand_89 kw_2005 rfl (by decide) rfl (by omega) (by decide) (Nat.le_of_ble_eq_true rfl) hQ ?_ rfl
          rintro o S7 ⟨rfl, hQ⟩
          show ev_E g m_X10_readsCommand (D + 2) 0 92 [some (ev_o 10 a), some (ev_i x0), some (ev_i v1_), some (ev_i (S3.1 a 21))] [] S7 Q
          refine ev_aload_n (ev_o 10 a) dX10_readsCommand_92 rfl rfl ?_
          refine ev_bipush (59) dX10_readsCommand_93 (by decide) ?_
          refine ev_cV mv_X10_takesSign 4 0 10 [ev_i 59] [] dX10_readsCommand_95 kw_1810 rfl (by decide) rfl (by omega) (by decide) (Nat.le_of_ble_eq_true rfl) hQ ?_ rfl
          rintro o S8 ⟨rfl, hQ⟩
          show ev_E g m_X10_readsCommand (D + 2) 0 98 [some (ev_o 10 a), some (ev_i x0), some (ev_i v1_), some (ev_i (S3.1 a 21))] [] S8 Q
          exact ev_return dX10_readsCommand_98 rfl hQ
        · rw [if_neg c4]
          replace hQ := hQ.2 c4
          refine ev_if_ne 46 dX10_readsCommand_42 (by decide) (fun h9 => absurd (by decide : ((0 : Int32) = 0)) h9) (fun _ => ?_)
          exact ev_return dX10_readsCommand_45 rfl hQ
      · replace hQ := hQ.2 c3
        refine ev_iconst (1) dX10_readsCommand_33 rfl ?_
        refine ev_goto 38 dX10_readsCommand_34 (by decide) ?_
        refine ev_iconst (4) dX10_readsCommand_38 rfl ?_
        refine ev_cV mv_X10_must 1 0 10 [ev_i 1, ev_i 4] [] dX10_readsCommand_39 kw_1794 rfl (by decide) rfl (by omega) (by decide) (Nat.le_of_ble_eq_true rfl) hQ ?_ rfl
        rintro o S9 ⟨v7_, rfl, hQ⟩
        show ev_E g m_X10_readsCommand (D + 2) 0 42 [some (ev_o 10 a), some (ev_i x0), some (ev_i v1_), none] [ev_i (if v7_ = true then 1 else 0)] S9 Q
        by_cases c5 : v7_ = true
        · rw [if_pos c5]
          replace hQ := hQ.1 c5
          refine ev_if_ne 46 dX10_readsCommand_42 (by decide) (fun _ => ?_) (fun h9 => absurd h9 (by decide : ¬ ((1 : Int32) = 0)))
          refine ev_aload_n (ev_o 10 a) dX10_readsCommand_46 rfl rfl ?_
          refine gf_10_21 dX10_readsCommand_47 kw_1874 ?_
          refine ev_istore_n dX10_readsCommand_50 (Nat.le_of_ble_eq_true rfl) (ev_hw rfl) ?_
          show ev_E g m_X10_readsCommand (D + 2) 0 51 [some (ev_o 10 a), some (ev_i x0), some (ev_i v1_), some (ev_i (S9.1 a 21))] [] S9 Q
          refine ev_aload_n (ev_o 10 a) dX10_readsCommand_51 rfl rfl ?_
          refine gf_10_19 dX10_readsCommand_52 kw_1872 ?_
          refine ev_iload_n ((S9.1 a 21)) dX10_readsCommand_55 rfl ?_
          refine ev_iload_n (v1_) dX10_readsCommand_56 rfl ?_
          obtain ⟨h2, hQ⟩ := hQ
          refine ev_iastore dX10_readsCommand_57 h2 ?_
          refine ev_sub hQ (fun S10 hS10 hQ => ?_)
          refine ev_E.goal (pc' := 58) (L' := [some (ev_o 10 a), some (ev_i x0), some (ev_i v1_), some (ev_i (S9.1 a 21))]) (K' := []) (S' := S10) ?_ rfl rfl rfl hS10
          refine ev_aload_n (ev_o 10 a) dX10_readsCommand_58 rfl rfl ?_
          refine ev_dup dX10_readsCommand_59 rfl ?_
          refine gf_10_21 dX10_readsCommand_60 kw_1874 ?_
          refine ev_ke (j_rk hS10 (Or.inl (by omega))) ?_
          refine ev_iconst (1) dX10_readsCommand_63 rfl ?_
          refine ev_iadd dX10_readsCommand_64 ?_
          refine pf_10_21 dX10_readsCommand_65 kw_1874 ?_
          refine ev_sub hQ (fun S11 hS11 hQ => ?_)
          refine ev_E.goal (pc' := 68) (L' := [some (ev_o 10 a), some (ev_i x0), some (ev_i v1_), some (ev_i (S9.1 a 21))]) (K' := []) (S' := S11) ?_ rfl rfl rfl hS11
          refine ev_aload_n (ev_o 10 a) dX10_readsCommand_68 rfl rfl ?_
          refine ev_cV mv_X10_reads 2 0 10 [] [] dX10_readsCommand_69 kw_1773 rfl (by decide) rfl (by omega) (by decide) (Nat.le_of_ble_eq_true rfl) hQ ?_ rfl
          rintro o S12 ⟨rfl, hQ⟩
          show ev_E g m_X10_readsCommand (D + 2) 0 72 [some (ev_o 10 a), some (ev_i x0), some (ev_i v1_), some (ev_i (S9.1 a 21))] [] S12 Q
          refine ev_iload_n (v1_) dX10_readsCommand_72 rfl ?_
          refine ev_bipush (6) dX10_readsCommand_73 (by decide) ?_
          refine ev_icmp_ne 87 dX10_readsCommand_75 (by decide) (fun _ => ?_) (fun h9 => absurd h9 (by rw [c1]; decide : ¬ (v1_ = 6)))
          refine ev_aload_n (ev_o 10 a) dX10_readsCommand_87 rfl rfl ?_
          refine ev_iload_n ((S9.1 a 21)) dX10_readsCommand_88 rfl ?_
          refine ev_cV mv_X10_readsSingle 6 0 10 [ev_i (S9.1 a 21)] [] dX10_readsCommand_89 kw_2005 rfl (by decide) rfl (by omega) (by decide) (Nat.le_of_ble_eq_true rfl) hQ ?_ rfl
          rintro o S13 ⟨rfl, hQ⟩
          show ev_E g m_X10_readsCommand (D + 2) 0 92 [some (ev_o 10 a), some (ev_i x0), some (ev_i v1_), some (ev_i (S9.1 a 21))] [] S13 Q
          refine ev_aload_n (ev_o 10 a) dX10_readsCommand_92 rfl rfl ?_
          refine ev_bipush (59) dX10_readsCommand_93 (by decide) ?_
          refine ev_cV mv_X10_takesSign 4 0 10 [ev_i 59] [] dX10_readsCommand_95 kw_1810 rfl (by decide) rfl (by omega) (by decide) (Nat.le_of_ble_eq_true rfl) hQ ?_ rfl
          rintro o S14 ⟨rfl, hQ⟩
          show ev_E g m_X10_readsCommand (D + 2) 0 98 [some (ev_o 10 a), some (ev_i x0), some (ev_i v1_), some (ev_i (S9.1 a 21))] [] S14 Q
          exact ev_return dX10_readsCommand_98 rfl hQ
        · rw [if_neg c5]
          replace hQ := hQ.2 c5
          refine ev_if_ne 46 dX10_readsCommand_42 (by decide) (fun h9 => absurd (by decide : ((0 : Int32) = 0)) h9) (fun _ => ?_)
          exact ev_return dX10_readsCommand_45 rfl hQ
    · rw [if_neg c2]
      replace hQ := hQ.2 c2
      refine ev_if_eq 45 dX10_readsCommand_20 (by decide) (fun _ => ?_) (fun h9 => absurd (by decide : ((0 : Int32) = 0)) h9)
      exact ev_return dX10_readsCommand_45 rfl hQ
  · replace hQ := hQ.2 c1
    refine ev_iconst (1) dX10_readsCommand_11 rfl ?_
    refine ev_goto 16 dX10_readsCommand_12 (by decide) ?_
    refine ev_iconst (1) dX10_readsCommand_16 rfl ?_
    refine ev_cV mv_X10_must 1 0 10 [ev_i 1, ev_i 1] [] dX10_readsCommand_17 kw_1794 rfl (by decide) rfl (by omega) (by decide) (Nat.le_of_ble_eq_true rfl) hQ ?_ rfl
    rintro o S15 ⟨v11_, rfl, hQ⟩
    show ev_E g m_X10_readsCommand (D + 2) 0 20 [some (ev_o 10 a), some (ev_i x0), some (ev_i v1_), none] [ev_i (if v11_ = true then 1 else 0)] S15 Q
    by_cases c6 : v11_ = true
    · rw [if_pos c6]
      replace hQ := hQ.1 c6
      refine ev_if_eq 45 dX10_readsCommand_20 (by decide) (fun h9 => absurd h9 (by decide : ¬ ((1 : Int32) = 0))) (fun _ => ?_)
      refine ev_aload_n (ev_o 10 a) dX10_readsCommand_23 rfl rfl ?_
      refine ev_aload_n (ev_o 10 a) dX10_readsCommand_24 rfl rfl ?_
      refine gf_10_21 dX10_readsCommand_25 kw_1874 ?_
      refine ev_bipush (30) dX10_readsCommand_28 (by decide) ?_
      refine ev_icmp_ge 37 dX10_readsCommand_30 (by decide) (fun c7 => ?_) (fun c7 => ?_)
      · replace hQ := hQ.1 c7
        refine ev_iconst (0) dX10_readsCommand_37 rfl ?_
        refine ev_iconst (4) dX10_readsCommand_38 rfl ?_
        refine ev_cV mv_X10_must 1 0 10 [ev_i 0, ev_i 4] [] dX10_readsCommand_39 kw_1794 rfl (by decide) rfl (by omega) (by decide) (Nat.le_of_ble_eq_true rfl) hQ ?_ rfl
        rintro o S16 ⟨v12_, rfl, hQ⟩
        show ev_E g m_X10_readsCommand (D + 2) 0 42 [some (ev_o 10 a), some (ev_i x0), some (ev_i v1_), none] [ev_i (if v12_ = true then 1 else 0)] S16 Q
        by_cases c8 : v12_ = true
        · rw [if_pos c8]
          replace hQ := hQ.1 c8
          refine ev_if_ne 46 dX10_readsCommand_42 (by decide) (fun _ => ?_) (fun h9 => absurd h9 (by decide : ¬ ((1 : Int32) = 0)))
          refine ev_aload_n (ev_o 10 a) dX10_readsCommand_46 rfl rfl ?_
          refine gf_10_21 dX10_readsCommand_47 kw_1874 ?_
          refine ev_istore_n dX10_readsCommand_50 (Nat.le_of_ble_eq_true rfl) (ev_hw rfl) ?_
          show ev_E g m_X10_readsCommand (D + 2) 0 51 [some (ev_o 10 a), some (ev_i x0), some (ev_i v1_), some (ev_i (S16.1 a 21))] [] S16 Q
          refine ev_aload_n (ev_o 10 a) dX10_readsCommand_51 rfl rfl ?_
          refine gf_10_19 dX10_readsCommand_52 kw_1872 ?_
          refine ev_iload_n ((S16.1 a 21)) dX10_readsCommand_55 rfl ?_
          refine ev_iload_n (v1_) dX10_readsCommand_56 rfl ?_
          obtain ⟨h3, hQ⟩ := hQ
          refine ev_iastore dX10_readsCommand_57 h3 ?_
          refine ev_sub hQ (fun S17 hS17 hQ => ?_)
          refine ev_E.goal (pc' := 58) (L' := [some (ev_o 10 a), some (ev_i x0), some (ev_i v1_), some (ev_i (S16.1 a 21))]) (K' := []) (S' := S17) ?_ rfl rfl rfl hS17
          refine ev_aload_n (ev_o 10 a) dX10_readsCommand_58 rfl rfl ?_
          refine ev_dup dX10_readsCommand_59 rfl ?_
          refine gf_10_21 dX10_readsCommand_60 kw_1874 ?_
          refine ev_ke (j_rk hS17 (Or.inl (by omega))) ?_
          refine ev_iconst (1) dX10_readsCommand_63 rfl ?_
          refine ev_iadd dX10_readsCommand_64 ?_
          refine pf_10_21 dX10_readsCommand_65 kw_1874 ?_
          refine ev_sub hQ (fun S18 hS18 hQ => ?_)
          refine ev_E.goal (pc' := 68) (L' := [some (ev_o 10 a), some (ev_i x0), some (ev_i v1_), some (ev_i (S16.1 a 21))]) (K' := []) (S' := S18) ?_ rfl rfl rfl hS18
          refine ev_aload_n (ev_o 10 a) dX10_readsCommand_68 rfl rfl ?_
          refine ev_cV mv_X10_reads 2 0 10 [] [] dX10_readsCommand_69 kw_1773 rfl (by decide) rfl (by omega) (by decide) (Nat.le_of_ble_eq_true rfl) hQ ?_ rfl
          rintro o S19 ⟨rfl, hQ⟩
          show ev_E g m_X10_readsCommand (D + 2) 0 72 [some (ev_o 10 a), some (ev_i x0), some (ev_i v1_), some (ev_i (S16.1 a 21))] [] S19 Q
          refine ev_iload_n (v1_) dX10_readsCommand_72 rfl ?_
          refine ev_bipush (6) dX10_readsCommand_73 (by decide) ?_
          refine ev_icmp_ne 87 dX10_readsCommand_75 (by decide) (fun c9 => ?_) (fun c9 => ?_)
          · replace hQ := hQ.2 c9
            refine ev_aload_n (ev_o 10 a) dX10_readsCommand_87 rfl rfl ?_
            refine ev_iload_n ((S16.1 a 21)) dX10_readsCommand_88 rfl ?_
            refine ev_cV mv_X10_readsSingle 6 0 10 [ev_i (S16.1 a 21)] [] dX10_readsCommand_89 kw_2005 rfl (by decide) rfl (by omega) (by decide) (Nat.le_of_ble_eq_true rfl) hQ ?_ rfl
            rintro o S20 ⟨rfl, hQ⟩
            show ev_E g m_X10_readsCommand (D + 2) 0 92 [some (ev_o 10 a), some (ev_i x0), some (ev_i v1_), some (ev_i (S16.1 a 21))] [] S20 Q
            refine ev_aload_n (ev_o 10 a) dX10_readsCommand_92 rfl rfl ?_
            refine ev_bipush (59) dX10_readsCommand_93 (by decide) ?_
            refine ev_cV mv_X10_takesSign 4 0 10 [ev_i 59] [] dX10_readsCommand_95 kw_1810 rfl (by decide) rfl (by omega) (by decide) (Nat.le_of_ble_eq_true rfl) hQ ?_ rfl
            rintro o S21 ⟨rfl, hQ⟩
            show ev_E g m_X10_readsCommand (D + 2) 0 98 [some (ev_o 10 a), some (ev_i x0), some (ev_i v1_), some (ev_i (S16.1 a 21))] [] S21 Q
            exact ev_return dX10_readsCommand_98 rfl hQ
          · replace hQ := hQ.1 c9
            refine ev_aload_n (ev_o 10 a) dX10_readsCommand_78 rfl rfl ?_
            refine ev_iload_n ((S16.1 a 21)) dX10_readsCommand_79 rfl ?_
            refine ev_iload_n (x0) dX10_readsCommand_80 rfl ?_
            refine ev_cV mv_X10_readsRepeat (D + 1) 0 10 [ev_i (S16.1 a 21), ev_i x0] [] dX10_readsCommand_81 kw_1997 rfl (by decide) rfl (by omega) (by decide) (Nat.le_of_ble_eq_true rfl) hQ ?_ rfl
            rintro o S22 ⟨rfl, hQ⟩
            show ev_E g m_X10_readsCommand (D + 2) 0 84 [some (ev_o 10 a), some (ev_i x0), some (ev_i v1_), some (ev_i (S16.1 a 21))] [] S22 Q
            refine ev_goto 92 dX10_readsCommand_84 (by decide) ?_
            refine ev_aload_n (ev_o 10 a) dX10_readsCommand_92 rfl rfl ?_
            refine ev_bipush (59) dX10_readsCommand_93 (by decide) ?_
            refine ev_cV mv_X10_takesSign 4 0 10 [ev_i 59] [] dX10_readsCommand_95 kw_1810 rfl (by decide) rfl (by omega) (by decide) (Nat.le_of_ble_eq_true rfl) hQ ?_ rfl
            rintro o S23 ⟨rfl, hQ⟩
            show ev_E g m_X10_readsCommand (D + 2) 0 98 [some (ev_o 10 a), some (ev_i x0), some (ev_i v1_), some (ev_i (S16.1 a 21))] [] S23 Q
            exact ev_return dX10_readsCommand_98 rfl hQ
        · rw [if_neg c8]
          replace hQ := hQ.2 c8
          refine ev_if_ne 46 dX10_readsCommand_42 (by decide) (fun h9 => absurd (by decide : ((0 : Int32) = 0)) h9) (fun _ => ?_)
          exact ev_return dX10_readsCommand_45 rfl hQ
      · replace hQ := hQ.2 c7
        refine ev_iconst (1) dX10_readsCommand_33 rfl ?_
        refine ev_goto 38 dX10_readsCommand_34 (by decide) ?_
        refine ev_iconst (4) dX10_readsCommand_38 rfl ?_
        refine ev_cV mv_X10_must 1 0 10 [ev_i 1, ev_i 4] [] dX10_readsCommand_39 kw_1794 rfl (by decide) rfl (by omega) (by decide) (Nat.le_of_ble_eq_true rfl) hQ ?_ rfl
        rintro o S24 ⟨v18_, rfl, hQ⟩
        show ev_E g m_X10_readsCommand (D + 2) 0 42 [some (ev_o 10 a), some (ev_i x0), some (ev_i v1_), none] [ev_i (if v18_ = true then 1 else 0)] S24 Q
        by_cases c10 : v18_ = true
        · rw [if_pos c10]
          replace hQ := hQ.1 c10
          refine ev_if_ne 46 dX10_readsCommand_42 (by decide) (fun _ => ?_) (fun h9 => absurd h9 (by decide : ¬ ((1 : Int32) = 0)))
          refine ev_aload_n (ev_o 10 a) dX10_readsCommand_46 rfl rfl ?_
          refine gf_10_21 dX10_readsCommand_47 kw_1874 ?_
          refine ev_istore_n dX10_readsCommand_50 (Nat.le_of_ble_eq_true rfl) (ev_hw rfl) ?_
          show ev_E g m_X10_readsCommand (D + 2) 0 51 [some (ev_o 10 a), some (ev_i x0), some (ev_i v1_), some (ev_i (S24.1 a 21))] [] S24 Q
          refine ev_aload_n (ev_o 10 a) dX10_readsCommand_51 rfl rfl ?_
          refine gf_10_19 dX10_readsCommand_52 kw_1872 ?_
          refine ev_iload_n ((S24.1 a 21)) dX10_readsCommand_55 rfl ?_
          refine ev_iload_n (v1_) dX10_readsCommand_56 rfl ?_
          obtain ⟨h4, hQ⟩ := hQ
          refine ev_iastore dX10_readsCommand_57 h4 ?_
          refine ev_sub hQ (fun S25 hS25 hQ => ?_)
          refine ev_E.goal (pc' := 58) (L' := [some (ev_o 10 a), some (ev_i x0), some (ev_i v1_), some (ev_i (S24.1 a 21))]) (K' := []) (S' := S25) ?_ rfl rfl rfl hS25
          refine ev_aload_n (ev_o 10 a) dX10_readsCommand_58 rfl rfl ?_
          refine ev_dup dX10_readsCommand_59 rfl ?_
          refine gf_10_21 dX10_readsCommand_60 kw_1874 ?_
          refine ev_ke (j_rk hS25 (Or.inl (by omega))) ?_
          refine ev_iconst (1) dX10_readsCommand_63 rfl ?_
          refine ev_iadd dX10_readsCommand_64 ?_
          refine pf_10_21 dX10_readsCommand_65 kw_1874 ?_
          refine ev_sub hQ (fun S26 hS26 hQ => ?_)
          refine ev_E.goal (pc' := 68) (L' := [some (ev_o 10 a), some (ev_i x0), some (ev_i v1_), some (ev_i (S24.1 a 21))]) (K' := []) (S' := S26) ?_ rfl rfl rfl hS26
          refine ev_aload_n (ev_o 10 a) dX10_readsCommand_68 rfl rfl ?_
          refine ev_cV mv_X10_reads 2 0 10 [] [] dX10_readsCommand_69 kw_1773 rfl (by decide) rfl (by omega) (by decide) (Nat.le_of_ble_eq_true rfl) hQ ?_ rfl
          rintro o S27 ⟨rfl, hQ⟩
          show ev_E g m_X10_readsCommand (D + 2) 0 72 [some (ev_o 10 a), some (ev_i x0), some (ev_i v1_), some (ev_i (S24.1 a 21))] [] S27 Q
          refine ev_iload_n (v1_) dX10_readsCommand_72 rfl ?_
          refine ev_bipush (6) dX10_readsCommand_73 (by decide) ?_
          refine ev_icmp_ne 87 dX10_readsCommand_75 (by decide) (fun c11 => ?_) (fun c11 => ?_)
          · replace hQ := hQ.2 c11
            refine ev_aload_n (ev_o 10 a) dX10_readsCommand_87 rfl rfl ?_
            refine ev_iload_n ((S24.1 a 21)) dX10_readsCommand_88 rfl ?_
            refine ev_cV mv_X10_readsSingle 6 0 10 [ev_i (S24.1 a 21)] [] dX10_readsCommand_89 kw_2005 rfl (by decide) rfl (by omega) (by decide) (Nat.le_of_ble_eq_true rfl) hQ ?_ rfl
            rintro o S28 ⟨rfl, hQ⟩
            show ev_E g m_X10_readsCommand (D + 2) 0 92 [some (ev_o 10 a), some (ev_i x0), some (ev_i v1_), some (ev_i (S24.1 a 21))] [] S28 Q
            refine ev_aload_n (ev_o 10 a) dX10_readsCommand_92 rfl rfl ?_
            refine ev_bipush (59) dX10_readsCommand_93 (by decide) ?_
            refine ev_cV mv_X10_takesSign 4 0 10 [ev_i 59] [] dX10_readsCommand_95 kw_1810 rfl (by decide) rfl (by omega) (by decide) (Nat.le_of_ble_eq_true rfl) hQ ?_ rfl
            rintro o S29 ⟨rfl, hQ⟩
            show ev_E g m_X10_readsCommand (D + 2) 0 98 [some (ev_o 10 a), some (ev_i x0), some (ev_i v1_), some (ev_i (S24.1 a 21))] [] S29 Q
            exact ev_return dX10_readsCommand_98 rfl hQ
          · replace hQ := hQ.1 c11
            refine ev_aload_n (ev_o 10 a) dX10_readsCommand_78 rfl rfl ?_
            refine ev_iload_n ((S24.1 a 21)) dX10_readsCommand_79 rfl ?_
            refine ev_iload_n (x0) dX10_readsCommand_80 rfl ?_
            refine ev_cV mv_X10_readsRepeat (D + 1) 0 10 [ev_i (S24.1 a 21), ev_i x0] [] dX10_readsCommand_81 kw_1997 rfl (by decide) rfl (by omega) (by decide) (Nat.le_of_ble_eq_true rfl) hQ ?_ rfl
            rintro o S30 ⟨rfl, hQ⟩
            show ev_E g m_X10_readsCommand (D + 2) 0 84 [some (ev_o 10 a), some (ev_i x0), some (ev_i v1_), some (ev_i (S24.1 a 21))] [] S30 Q
            refine ev_goto 92 dX10_readsCommand_84 (by decide) ?_
            refine ev_aload_n (ev_o 10 a) dX10_readsCommand_92 rfl rfl ?_
            refine ev_bipush (59) dX10_readsCommand_93 (by decide) ?_
            refine ev_cV mv_X10_takesSign 4 0 10 [ev_i 59] [] dX10_readsCommand_95 kw_1810 rfl (by decide) rfl (by omega) (by decide) (Nat.le_of_ble_eq_true rfl) hQ ?_ rfl
            rintro o S31 ⟨rfl, hQ⟩
            show ev_E g m_X10_readsCommand (D + 2) 0 98 [some (ev_o 10 a), some (ev_i x0), some (ev_i v1_), some (ev_i (S24.1 a 21))] [] S31 Q
            exact ev_return dX10_readsCommand_98 rfl hQ
        · rw [if_neg c10]
          replace hQ := hQ.2 c10
          refine ev_if_ne 46 dX10_readsCommand_42 (by decide) (fun h9 => absurd (by decide : ((0 : Int32) = 0)) h9) (fun _ => ?_)
          exact ev_return dX10_readsCommand_45 rfl hQ
    · rw [if_neg c6]
      replace hQ := hQ.2 c6
      refine ev_if_eq 45 dX10_readsCommand_20 (by decide) (fun _ => ?_) (fun h9 => absurd (by decide : ((0 : Int32) = 0)) h9)
      exact ev_return dX10_readsCommand_45 rfl hQ
set_option maxHeartbeats 4000000 in
set_option maxRecDepth 100000 in
theorem sg_X10_readsCommands_0 {g : ev_G} {S : ev_S} {Q : ev_O → ev_S → Prop} {D : Nat} (hD : 20 ≤ D) (a : Nat) (x0 : Int32) (hQ : ev_E g m_X10_readsCommands (D + 3) 0 0 [some (ev_o 10 a), some (ev_i x0)] [] S Q) : ev_Cv g m_X10_readsCommands (D + 3) 0 [ev_o 10 a, ev_i x0] S Q := by
  refine ev_enter (by decide) rfl rfl (Nat.le_of_ble_eq_true rfl) ?_
  show ev_E g m_X10_readsCommands (D + 3) 0 0 [some (ev_o 10 a), some (ev_i x0)] [] S Q
  exact hQ
set_option maxHeartbeats 4000000 in
set_option maxRecDepth 100000 in
theorem sg_X10_readsCommands_h0 {g : ev_G} {S : ev_S} {Q : ev_O → ev_S → Prop} {D : Nat} (hD : 20 ≤ D) (a : Nat) (u1 : Int32) (hQ : ((S.1 a 17) = 0 → (
    ((S.1 a 15) = 0 → (
      Q (.inl none) S)) ∧
    (¬ ((S.1 a 15) = 0) → (
      (((S.1 a 17) = 0) → ((S.1 a 15) = 3) → ¬ ((S.1 a 10) ≤ (S.1 a 14)) → vp_in (S.1 a 14) 800) ∧ (
        ((t_X10_isSign S a 41) = true → (
          Q (.inl none) S)) ∧
        (¬ ((t_X10_isSign S a 41) = true) → (
          ev_Cv g m_X10_readsCommand (D + 2) 0 [ev_o 10 a, ev_i u1] S (fun o S1 => o = .inl none ∧ (
            ev_E g m_X10_readsCommands (D + 3) 0 0 [some (ev_o 10 a), some (ev_i u1)] [] S1 Q))))))))) ∧
  (¬ ((S.1 a 17) = 0) → (
    Q (.inl none) S))) : ev_E g m_X10_readsCommands (D + 3) 0 0 [some (ev_o 10 a), some (ev_i u1)] [] S Q := by
  refine ev_aload_n (ev_o 10 a) dX10_readsCommands_0 rfl rfl ?_
  refine gf_10_17 dX10_readsCommands_1 kw_1870 ?_
  refine ev_if_ne 31 dX10_readsCommands_4 (by decide) (fun c1 => ?_) (fun c1 => ?_)
  · replace hQ := hQ.2 c1
    exact ev_return dX10_readsCommands_31 rfl hQ
  · replace hQ := hQ.1 c1
    refine ev_aload_n (ev_o 10 a) dX10_readsCommands_7 rfl rfl ?_
    refine gf_10_15 dX10_readsCommands_8 kw_1868 ?_
    refine ev_if_eq 31 dX10_readsCommands_11 (by decide) (fun c2 => ?_) (fun c2 => ?_)
    · replace hQ := hQ.1 c2
      exact ev_return dX10_readsCommands_31 rfl hQ
    · replace hQ := hQ.2 c2
      refine ev_aload_n (ev_o 10 a) dX10_readsCommands_14 rfl rfl ?_
      refine ev_bipush (41) dX10_readsCommands_15 (by decide) ?_
      obtain ⟨h1, hQ⟩ := hQ
      refine ev_fV mv_X10_isSign 2 10 [ev_i 41] [] dX10_readsCommands_17 kw_1814 rfl (by decide) rfl (by omega) (Nat.le_of_ble_eq_true rfl) (sp_X10_isSign a 41 h1) ?_ rfl
      by_cases c3 : (t_X10_isSign S a 41) = true
      · rw [if_pos c3]
        replace hQ := hQ.1 c3
        refine ev_if_ne 31 dX10_readsCommands_20 (by decide) (fun _ => ?_) (fun h9 => absurd h9 (by decide : ¬ ((1 : Int32) = 0)))
        exact ev_return dX10_readsCommands_31 rfl hQ
      · rw [if_neg c3]
        replace hQ := hQ.2 c3
        refine ev_if_ne 31 dX10_readsCommands_20 (by decide) (fun h9 => absurd (by decide : ((0 : Int32) = 0)) h9) (fun _ => ?_)
        refine ev_aload_n (ev_o 10 a) dX10_readsCommands_23 rfl rfl ?_
        refine ev_iload_n (u1) dX10_readsCommands_24 rfl ?_
        refine ev_cV mv_X10_readsCommand (D + 2) 0 10 [ev_i u1] [] dX10_readsCommands_25 kw_1983 rfl (by decide) rfl (by omega) (by decide) (Nat.le_of_ble_eq_true rfl) hQ ?_ rfl
        rintro o S1 ⟨rfl, hQ⟩
        show ev_E g m_X10_readsCommands (D + 3) 0 28 [some (ev_o 10 a), some (ev_i u1)] [] S1 Q
        refine ev_goto 0 dX10_readsCommands_28 (by decide) ?_
        exact hQ
set_option maxHeartbeats 4000000 in
set_option maxRecDepth 100000 in
theorem sg_X10_readsRepeat_0 {g : ev_G} {S : ev_S} {Q : ev_O → ev_S → Prop} {D : Nat} (hD : 20 ≤ D) (a : Nat) (x0 : Int32) (x1 : Int32) (hQ : ev_Cv g m_X10_keepsNumber 5 0 [ev_o 10 a, ev_i x0, ev_i 0, ev_i 0, ev_i 20] S (fun o S1 => o = .inl none ∧ (
    (((S1.1 a 17) = 0) → ((S1.1 a 15) = 3) → ¬ ((S1.1 a 10) ≤ (S1.1 a 14)) → vp_in (S1.1 a 14) 800) ∧ (
      ((t_X10_isSign S1 a 40) = true → (
        ev_Cv g m_X10_must 1 0 [ev_o 10 a, ev_i 1, ev_i 1] S1 (fun o S2 => ∃ v2_ : Bool, o = .inl (some (ev_i (if v2_ = true then 1 else 0))) ∧ (
          (v2_ = true → (
            (2 ≤ x1 → (
              ev_Cv g m_X10_must 1 0 [ev_o 10 a, ev_i 0, ev_i 4] S2 (fun o S3 => ∃ v3_ : Bool, o = .inl (some (ev_i (if v3_ = true then 1 else 0))) ∧ (
                ev_Cv g m_X10_passes 3 0 [ev_o 10 a] S3 (fun o S4 => o = .inl none ∧ (
                  ev_Cv g m_X10_readsCommands D 0 [ev_o 10 a, ev_i (x1 + 1)] S4 (fun o S5 => o = .inl none ∧ (
                    ev_Cv g m_X10_takesSign 4 0 [ev_o 10 a, ev_i 41] S5 (fun o S6 => o = .inl none ∧ (
                      (vp_in ((6 * x0) + 1) 180) ∧ (
                        ∀ S7 : ev_S, S7 = (ev_up S6 (a + 9) ((6 * x0) + 1).toNatClampNeg (S6.1 a 21)) → (
                          Q (.inl none) S7)))))))))))) ∧
            (¬ (2 ≤ x1) → (
              ev_Cv g m_X10_must 1 0 [ev_o 10 a, ev_i 1, ev_i 4] S2 (fun o S8 => ∃ v7_ : Bool, o = .inl (some (ev_i (if v7_ = true then 1 else 0))) ∧ (
                ev_Cv g m_X10_passes 3 0 [ev_o 10 a] S8 (fun o S9 => o = .inl none ∧ (
                  ev_Cv g m_X10_readsCommands D 0 [ev_o 10 a, ev_i (x1 + 1)] S9 (fun o S10 => o = .inl none ∧ (
                    ev_Cv g m_X10_takesSign 4 0 [ev_o 10 a, ev_i 41] S10 (fun o S11 => o = .inl none ∧ (
                      (vp_in ((6 * x0) + 1) 180) ∧ (
                        ∀ S12 : ev_S, S12 = (ev_up S11 (a + 9) ((6 * x0) + 1).toNatClampNeg (S11.1 a 21)) → (
                          Q (.inl none) S12)))))))))))))) ∧
          (¬ (v2_ = true) → (
            ev_Cv g m_X10_passes 3 0 [ev_o 10 a] S2 (fun o S13 => o = .inl none ∧ (
              ev_Cv g m_X10_readsCommands D 0 [ev_o 10 a, ev_i (x1 + 1)] S13 (fun o S14 => o = .inl none ∧ (
                ev_Cv g m_X10_takesSign 4 0 [ev_o 10 a, ev_i 41] S14 (fun o S15 => o = .inl none ∧ (
                  (vp_in ((6 * x0) + 1) 180) ∧ (
                    ∀ S16 : ev_S, S16 = (ev_up S15 (a + 9) ((6 * x0) + 1).toNatClampNeg (S15.1 a 21)) → (
                      Q (.inl none) S16)))))))))))))) ∧
      (¬ ((t_X10_isSign S1 a 40) = true) → (
        ev_Cv g m_X10_must 1 0 [ev_o 10 a, ev_i 0, ev_i 1] S1 (fun o S17 => ∃ v14_ : Bool, o = .inl (some (ev_i (if v14_ = true then 1 else 0))) ∧ (
          (v14_ = true → (
            (2 ≤ x1 → (
              ev_Cv g m_X10_must 1 0 [ev_o 10 a, ev_i 0, ev_i 4] S17 (fun o S18 => ∃ v15_ : Bool, o = .inl (some (ev_i (if v15_ = true then 1 else 0))) ∧ (
                ev_Cv g m_X10_passes 3 0 [ev_o 10 a] S18 (fun o S19 => o = .inl none ∧ (
                  ev_Cv g m_X10_readsCommands D 0 [ev_o 10 a, ev_i (x1 + 1)] S19 (fun o S20 => o = .inl none ∧ (
                    ev_Cv g m_X10_takesSign 4 0 [ev_o 10 a, ev_i 41] S20 (fun o S21 => o = .inl none ∧ (
                      (vp_in ((6 * x0) + 1) 180) ∧ (
                        ∀ S22 : ev_S, S22 = (ev_up S21 (a + 9) ((6 * x0) + 1).toNatClampNeg (S21.1 a 21)) → (
                          Q (.inl none) S22)))))))))))) ∧
            (¬ (2 ≤ x1) → (
              ev_Cv g m_X10_must 1 0 [ev_o 10 a, ev_i 1, ev_i 4] S17 (fun o S23 => ∃ v19_ : Bool, o = .inl (some (ev_i (if v19_ = true then 1 else 0))) ∧ (
                ev_Cv g m_X10_passes 3 0 [ev_o 10 a] S23 (fun o S24 => o = .inl none ∧ (
                  ev_Cv g m_X10_readsCommands D 0 [ev_o 10 a, ev_i (x1 + 1)] S24 (fun o S25 => o = .inl none ∧ (
                    ev_Cv g m_X10_takesSign 4 0 [ev_o 10 a, ev_i 41] S25 (fun o S26 => o = .inl none ∧ (
                      (vp_in ((6 * x0) + 1) 180) ∧ (
                        ∀ S27 : ev_S, S27 = (ev_up S26 (a + 9) ((6 * x0) + 1).toNatClampNeg (S26.1 a 21)) → (
                          Q (.inl none) S27)))))))))))))) ∧
          (¬ (v14_ = true) → (
            ev_Cv g m_X10_passes 3 0 [ev_o 10 a] S17 (fun o S28 => o = .inl none ∧ (
              ev_Cv g m_X10_readsCommands D 0 [ev_o 10 a, ev_i (x1 + 1)] S28 (fun o S29 => o = .inl none ∧ (
                ev_Cv g m_X10_takesSign 4 0 [ev_o 10 a, ev_i 41] S29 (fun o S30 => o = .inl none ∧ (
                  (vp_in ((6 * x0) + 1) 180) ∧ (
                    ∀ S31 : ev_S, S31 = (ev_up S30 (a + 9) ((6 * x0) + 1).toNatClampNeg (S30.1 a 21)) → (
                      Q (.inl none) S31)))))))))))))))))) : ev_Cv g m_X10_readsRepeat (D + 1) 0 [ev_o 10 a, ev_i x0, ev_i x1] S Q := by
  refine ev_enter (by decide) rfl rfl (Nat.le_of_ble_eq_true rfl) ?_
  show ev_E g m_X10_readsRepeat (D + 1) 0 0 [some (ev_o 10 a), some (ev_i x0), some (ev_i x1)] [] S Q
  refine ev_aload_n (ev_o 10 a) dX10_readsRepeat_0 rfl rfl ?_
  refine ev_iload_n (x0) dX10_readsRepeat_1 rfl ?_
  refine ev_iconst (0) dX10_readsRepeat_2 rfl ?_
  refine ev_iconst (0) dX10_readsRepeat_3 rfl ?_
  refine ev_bipush (20) dX10_readsRepeat_4 (by decide) ?_
  refine ev_cV mv_X10_keepsNumber 5 0 10 [ev_i x0, ev_i 0, ev_i 0, ev_i 20] [] dX10_readsRepeat_6 kw_2001 rfl (by decide) rfl (by omega) (by decide) (Nat.le_of_ble_eq_true rfl) hQ ?_ rfl
  rintro o S1 ⟨rfl, hQ⟩
  show ev_E g m_X10_readsRepeat (D + 1) 0 9 [some (ev_o 10 a), some (ev_i x0), some (ev_i x1)] [] S1 Q
  refine ev_aload_n (ev_o 10 a) dX10_readsRepeat_9 rfl rfl ?_
  refine ev_aload_n (ev_o 10 a) dX10_readsRepeat_10 rfl rfl ?_
  refine ev_bipush (40) dX10_readsRepeat_11 (by decide) ?_
  obtain ⟨h1, hQ⟩ := hQ
  refine ev_fV mv_X10_isSign 2 10 [ev_i 40] [ev_o 10 a] dX10_readsRepeat_13 kw_1814 rfl (by decide) rfl (by omega) (Nat.le_of_ble_eq_true rfl) (sp_X10_isSign a 40 h1) ?_ rfl
  by_cases c1 : (t_X10_isSign S1 a 40) = true
  · rw [if_pos c1]
    replace hQ := hQ.1 c1
    refine ev_iconst (1) dX10_readsRepeat_16 rfl ?_
    refine ev_cV mv_X10_must 1 0 10 [ev_i 1, ev_i 1] [] dX10_readsRepeat_17 kw_1794 rfl (by decide) rfl (by omega) (by decide) (Nat.le_of_ble_eq_true rfl) hQ ?_ rfl
    rintro o S2 ⟨v2_, rfl, hQ⟩
    show ev_E g m_X10_readsRepeat (D + 1) 0 20 [some (ev_o 10 a), some (ev_i x0), some (ev_i x1)] [ev_i (if v2_ = true then 1 else 0)] S2 Q
    by_cases c2 : v2_ = true
    · rw [if_pos c2]
      replace hQ := hQ.1 c2
      refine ev_if_eq 39 dX10_readsRepeat_20 (by decide) (fun h9 => absurd h9 (by decide : ¬ ((1 : Int32) = 0))) (fun _ => ?_)
      refine ev_aload_n (ev_o 10 a) dX10_readsRepeat_23 rfl rfl ?_
      refine ev_iload_n (x1) dX10_readsRepeat_24 rfl ?_
      refine ev_iconst (2) dX10_readsRepeat_25 rfl ?_
      refine ev_icmp_ge 33 dX10_readsRepeat_26 (by decide) (fun c3 => ?_) (fun c3 => ?_)
      · replace hQ := hQ.1 c3
        refine ev_iconst (0) dX10_readsRepeat_33 rfl ?_
        refine ev_iconst (4) dX10_readsRepeat_34 rfl ?_
        refine ev_cV mv_X10_must 1 0 10 [ev_i 0, ev_i 4] [] dX10_readsRepeat_35 kw_1794 rfl (by decide) rfl (by omega) (by decide) (Nat.le_of_ble_eq_true rfl) hQ ?_ rfl
        rintro o S3 ⟨v3_, rfl, hQ⟩
        show ev_E g m_X10_readsRepeat (D + 1) 0 38 [some (ev_o 10 a), some (ev_i x0), some (ev_i x1)] [ev_i (if v3_ = true then 1 else 0)] S3 Q
        refine ev_pop dX10_readsRepeat_38 rfl ?_
        refine ev_aload_n (ev_o 10 a) dX10_readsRepeat_39 rfl rfl ?_
        refine ev_cV mv_X10_passes 3 0 10 [] [] dX10_readsRepeat_40 kw_1798 rfl (by decide) rfl (by omega) (by decide) (Nat.le_of_ble_eq_true rfl) hQ ?_ rfl
        rintro o S4 ⟨rfl, hQ⟩
        show ev_E g m_X10_readsRepeat (D + 1) 0 43 [some (ev_o 10 a), some (ev_i x0), some (ev_i x1)] [] S4 Q
        refine ev_aload_n (ev_o 10 a) dX10_readsRepeat_43 rfl rfl ?_
        refine ev_iload_n (x1) dX10_readsRepeat_44 rfl ?_
        refine ev_iconst (1) dX10_readsRepeat_45 rfl ?_
        refine ev_iadd dX10_readsRepeat_46 ?_
        refine ev_cV mv_X10_readsCommands D 0 10 [ev_i (x1 + 1)] [] dX10_readsRepeat_47 kw_1979 rfl (by decide) rfl (by omega) (by decide) (Nat.le_of_ble_eq_true rfl) hQ ?_ rfl
        rintro o S5 ⟨rfl, hQ⟩
        show ev_E g m_X10_readsRepeat (D + 1) 0 50 [some (ev_o 10 a), some (ev_i x0), some (ev_i x1)] [] S5 Q
        refine ev_aload_n (ev_o 10 a) dX10_readsRepeat_50 rfl rfl ?_
        refine ev_bipush (41) dX10_readsRepeat_51 (by decide) ?_
        refine ev_cV mv_X10_takesSign 4 0 10 [ev_i 41] [] dX10_readsRepeat_53 kw_1810 rfl (by decide) rfl (by omega) (by decide) (Nat.le_of_ble_eq_true rfl) hQ ?_ rfl
        rintro o S6 ⟨rfl, hQ⟩
        show ev_E g m_X10_readsRepeat (D + 1) 0 56 [some (ev_o 10 a), some (ev_i x0), some (ev_i x1)] [] S6 Q
        refine ev_aload_n (ev_o 10 a) dX10_readsRepeat_56 rfl rfl ?_
        refine gf_10_20 dX10_readsRepeat_57 kw_1873 ?_
        refine ev_bipush (6) dX10_readsRepeat_60 (by decide) ?_
        refine ev_iload_n (x0) dX10_readsRepeat_62 rfl ?_
        refine ev_imul dX10_readsRepeat_63 ?_
        refine ev_iconst (1) dX10_readsRepeat_64 rfl ?_
        refine ev_iadd dX10_readsRepeat_65 ?_
        refine ev_aload_n (ev_o 10 a) dX10_readsRepeat_66 rfl rfl ?_
        refine gf_10_21 dX10_readsRepeat_67 kw_1874 ?_
        obtain ⟨h2, hQ⟩ := hQ
        refine ev_iastore dX10_readsRepeat_70 h2 ?_
        refine ev_sub hQ (fun S7 hS7 hQ => ?_)
        refine ev_E.goal (pc' := 71) (L' := [some (ev_o 10 a), some (ev_i x0), some (ev_i x1)]) (K' := []) (S' := S7) ?_ rfl rfl rfl hS7
        exact ev_return dX10_readsRepeat_71 rfl hQ
      · replace hQ := hQ.2 c3
        refine ev_iconst (1) dX10_readsRepeat_29 rfl ?_
        refine ev_goto 34 dX10_readsRepeat_30 (by decide) ?_
        refine ev_iconst (4) dX10_readsRepeat_34 rfl ?_
        refine ev_cV mv_X10_must 1 0 10 [ev_i 1, ev_i 4] [] dX10_readsRepeat_35 kw_1794 rfl (by decide) rfl (by omega) (by decide) (Nat.le_of_ble_eq_true rfl) hQ ?_ rfl
        rintro o S8 ⟨v7_, rfl, hQ⟩
        show ev_E g m_X10_readsRepeat (D + 1) 0 38 [some (ev_o 10 a), some (ev_i x0), some (ev_i x1)] [ev_i (if v7_ = true then 1 else 0)] S8 Q
        refine ev_pop dX10_readsRepeat_38 rfl ?_
        refine ev_aload_n (ev_o 10 a) dX10_readsRepeat_39 rfl rfl ?_
        refine ev_cV mv_X10_passes 3 0 10 [] [] dX10_readsRepeat_40 kw_1798 rfl (by decide) rfl (by omega) (by decide) (Nat.le_of_ble_eq_true rfl) hQ ?_ rfl
        rintro o S9 ⟨rfl, hQ⟩
        show ev_E g m_X10_readsRepeat (D + 1) 0 43 [some (ev_o 10 a), some (ev_i x0), some (ev_i x1)] [] S9 Q
        refine ev_aload_n (ev_o 10 a) dX10_readsRepeat_43 rfl rfl ?_
        refine ev_iload_n (x1) dX10_readsRepeat_44 rfl ?_
        refine ev_iconst (1) dX10_readsRepeat_45 rfl ?_
        refine ev_iadd dX10_readsRepeat_46 ?_
        refine ev_cV mv_X10_readsCommands D 0 10 [ev_i (x1 + 1)] [] dX10_readsRepeat_47 kw_1979 rfl (by decide) rfl (by omega) (by decide) (Nat.le_of_ble_eq_true rfl) hQ ?_ rfl
        rintro o S10 ⟨rfl, hQ⟩
        show ev_E g m_X10_readsRepeat (D + 1) 0 50 [some (ev_o 10 a), some (ev_i x0), some (ev_i x1)] [] S10 Q
        refine ev_aload_n (ev_o 10 a) dX10_readsRepeat_50 rfl rfl ?_
        refine ev_bipush (41) dX10_readsRepeat_51 (by decide) ?_
        refine ev_cV mv_X10_takesSign 4 0 10 [ev_i 41] [] dX10_readsRepeat_53 kw_1810 rfl (by decide) rfl (by omega) (by decide) (Nat.le_of_ble_eq_true rfl) hQ ?_ rfl
        rintro o S11 ⟨rfl, hQ⟩
        show ev_E g m_X10_readsRepeat (D + 1) 0 56 [some (ev_o 10 a), some (ev_i x0), some (ev_i x1)] [] S11 Q
        refine ev_aload_n (ev_o 10 a) dX10_readsRepeat_56 rfl rfl ?_
        refine gf_10_20 dX10_readsRepeat_57 kw_1873 ?_
        refine ev_bipush (6) dX10_readsRepeat_60 (by decide) ?_
        refine ev_iload_n (x0) dX10_readsRepeat_62 rfl ?_
        refine ev_imul dX10_readsRepeat_63 ?_
        refine ev_iconst (1) dX10_readsRepeat_64 rfl ?_
        refine ev_iadd dX10_readsRepeat_65 ?_
        refine ev_aload_n (ev_o 10 a) dX10_readsRepeat_66 rfl rfl ?_
        refine gf_10_21 dX10_readsRepeat_67 kw_1874 ?_
        obtain ⟨h3, hQ⟩ := hQ
        refine ev_iastore dX10_readsRepeat_70 h3 ?_
        refine ev_sub hQ (fun S12 hS12 hQ => ?_)
        refine ev_E.goal (pc' := 71) (L' := [some (ev_o 10 a), some (ev_i x0), some (ev_i x1)]) (K' := []) (S' := S12) ?_ rfl rfl rfl hS12
        exact ev_return dX10_readsRepeat_71 rfl hQ
    · rw [if_neg c2]
      replace hQ := hQ.2 c2
      refine ev_if_eq 39 dX10_readsRepeat_20 (by decide) (fun _ => ?_) (fun h9 => absurd (by decide : ((0 : Int32) = 0)) h9)
      refine ev_aload_n (ev_o 10 a) dX10_readsRepeat_39 rfl rfl ?_
      refine ev_cV mv_X10_passes 3 0 10 [] [] dX10_readsRepeat_40 kw_1798 rfl (by decide) rfl (by omega) (by decide) (Nat.le_of_ble_eq_true rfl) hQ ?_ rfl
      rintro o S13 ⟨rfl, hQ⟩
      show ev_E g m_X10_readsRepeat (D + 1) 0 43 [some (ev_o 10 a), some (ev_i x0), some (ev_i x1)] [] S13 Q
      refine ev_aload_n (ev_o 10 a) dX10_readsRepeat_43 rfl rfl ?_
      refine ev_iload_n (x1) dX10_readsRepeat_44 rfl ?_
      refine ev_iconst (1) dX10_readsRepeat_45 rfl ?_
      refine ev_iadd dX10_readsRepeat_46 ?_
      refine ev_cV mv_X10_readsCommands D 0 10 [ev_i (x1 + 1)] [] dX10_readsRepeat_47 kw_1979 rfl (by decide) rfl (by omega) (by decide) (Nat.le_of_ble_eq_true rfl) hQ ?_ rfl
      rintro o S14 ⟨rfl, hQ⟩
      show ev_E g m_X10_readsRepeat (D + 1) 0 50 [some (ev_o 10 a), some (ev_i x0), some (ev_i x1)] [] S14 Q
      refine ev_aload_n (ev_o 10 a) dX10_readsRepeat_50 rfl rfl ?_
      refine ev_bipush (41) dX10_readsRepeat_51 (by decide) ?_
      refine ev_cV mv_X10_takesSign 4 0 10 [ev_i 41] [] dX10_readsRepeat_53 kw_1810 rfl (by decide) rfl (by omega) (by decide) (Nat.le_of_ble_eq_true rfl) hQ ?_ rfl
      rintro o S15 ⟨rfl, hQ⟩
      show ev_E g m_X10_readsRepeat (D + 1) 0 56 [some (ev_o 10 a), some (ev_i x0), some (ev_i x1)] [] S15 Q
      refine ev_aload_n (ev_o 10 a) dX10_readsRepeat_56 rfl rfl ?_
      refine gf_10_20 dX10_readsRepeat_57 kw_1873 ?_
      refine ev_bipush (6) dX10_readsRepeat_60 (by decide) ?_
      refine ev_iload_n (x0) dX10_readsRepeat_62 rfl ?_
      refine ev_imul dX10_readsRepeat_63 ?_
      refine ev_iconst (1) dX10_readsRepeat_64 rfl ?_
      refine ev_iadd dX10_readsRepeat_65 ?_
      refine ev_aload_n (ev_o 10 a) dX10_readsRepeat_66 rfl rfl ?_
      refine gf_10_21 dX10_readsRepeat_67 kw_1874 ?_
      obtain ⟨h4, hQ⟩ := hQ
      refine ev_iastore dX10_readsRepeat_70 h4 ?_
      refine ev_sub hQ (fun S16 hS16 hQ => ?_)
      refine ev_E.goal (pc' := 71) (L' := [some (ev_o 10 a), some (ev_i x0), some (ev_i x1)]) (K' := []) (S' := S16) ?_ rfl rfl rfl hS16
      exact ev_return dX10_readsRepeat_71 rfl hQ
  · rw [if_neg c1]
    replace hQ := hQ.2 c1
    refine ev_iconst (1) dX10_readsRepeat_16 rfl ?_
    refine ev_cV mv_X10_must 1 0 10 [ev_i 0, ev_i 1] [] dX10_readsRepeat_17 kw_1794 rfl (by decide) rfl (by omega) (by decide) (Nat.le_of_ble_eq_true rfl) hQ ?_ rfl
    rintro o S17 ⟨v14_, rfl, hQ⟩
    show ev_E g m_X10_readsRepeat (D + 1) 0 20 [some (ev_o 10 a), some (ev_i x0), some (ev_i x1)] [ev_i (if v14_ = true then 1 else 0)] S17 Q
    by_cases c4 : v14_ = true
    · rw [if_pos c4]
      replace hQ := hQ.1 c4
      refine ev_if_eq 39 dX10_readsRepeat_20 (by decide) (fun h9 => absurd h9 (by decide : ¬ ((1 : Int32) = 0))) (fun _ => ?_)
      refine ev_aload_n (ev_o 10 a) dX10_readsRepeat_23 rfl rfl ?_
      refine ev_iload_n (x1) dX10_readsRepeat_24 rfl ?_
      refine ev_iconst (2) dX10_readsRepeat_25 rfl ?_
      refine ev_icmp_ge 33 dX10_readsRepeat_26 (by decide) (fun c5 => ?_) (fun c5 => ?_)
      · replace hQ := hQ.1 c5
        refine ev_iconst (0) dX10_readsRepeat_33 rfl ?_
        refine ev_iconst (4) dX10_readsRepeat_34 rfl ?_
        refine ev_cV mv_X10_must 1 0 10 [ev_i 0, ev_i 4] [] dX10_readsRepeat_35 kw_1794 rfl (by decide) rfl (by omega) (by decide) (Nat.le_of_ble_eq_true rfl) hQ ?_ rfl
        rintro o S18 ⟨v15_, rfl, hQ⟩
        show ev_E g m_X10_readsRepeat (D + 1) 0 38 [some (ev_o 10 a), some (ev_i x0), some (ev_i x1)] [ev_i (if v15_ = true then 1 else 0)] S18 Q
        refine ev_pop dX10_readsRepeat_38 rfl ?_
        refine ev_aload_n (ev_o 10 a) dX10_readsRepeat_39 rfl rfl ?_
        refine ev_cV mv_X10_passes 3 0 10 [] [] dX10_readsRepeat_40 kw_1798 rfl (by decide) rfl (by omega) (by decide) (Nat.le_of_ble_eq_true rfl) hQ ?_ rfl
        rintro o S19 ⟨rfl, hQ⟩
        show ev_E g m_X10_readsRepeat (D + 1) 0 43 [some (ev_o 10 a), some (ev_i x0), some (ev_i x1)] [] S19 Q
        refine ev_aload_n (ev_o 10 a) dX10_readsRepeat_43 rfl rfl ?_
        refine ev_iload_n (x1) dX10_readsRepeat_44 rfl ?_
        refine ev_iconst (1) dX10_readsRepeat_45 rfl ?_
        refine ev_iadd dX10_readsRepeat_46 ?_
        refine ev_cV mv_X10_readsCommands D 0 10 [ev_i (x1 + 1)] [] dX10_readsRepeat_47 kw_1979 rfl (by decide) rfl (by omega) (by decide) (Nat.le_of_ble_eq_true rfl) hQ ?_ rfl
        rintro o S20 ⟨rfl, hQ⟩
        show ev_E g m_X10_readsRepeat (D + 1) 0 50 [some (ev_o 10 a), some (ev_i x0), some (ev_i x1)] [] S20 Q
        refine ev_aload_n (ev_o 10 a) dX10_readsRepeat_50 rfl rfl ?_
        refine ev_bipush (41) dX10_readsRepeat_51 (by decide) ?_
        refine ev_cV mv_X10_takesSign 4 0 10 [ev_i 41] [] dX10_readsRepeat_53 kw_1810 rfl (by decide) rfl (by omega) (by decide) (Nat.le_of_ble_eq_true rfl) hQ ?_ rfl
        rintro o S21 ⟨rfl, hQ⟩
        show ev_E g m_X10_readsRepeat (D + 1) 0 56 [some (ev_o 10 a), some (ev_i x0), some (ev_i x1)] [] S21 Q
        refine ev_aload_n (ev_o 10 a) dX10_readsRepeat_56 rfl rfl ?_
        refine gf_10_20 dX10_readsRepeat_57 kw_1873 ?_
        refine ev_bipush (6) dX10_readsRepeat_60 (by decide) ?_
        refine ev_iload_n (x0) dX10_readsRepeat_62 rfl ?_
        refine ev_imul dX10_readsRepeat_63 ?_
        refine ev_iconst (1) dX10_readsRepeat_64 rfl ?_
        refine ev_iadd dX10_readsRepeat_65 ?_
        refine ev_aload_n (ev_o 10 a) dX10_readsRepeat_66 rfl rfl ?_
        refine gf_10_21 dX10_readsRepeat_67 kw_1874 ?_
        obtain ⟨h5, hQ⟩ := hQ
        refine ev_iastore dX10_readsRepeat_70 h5 ?_
        refine ev_sub hQ (fun S22 hS22 hQ => ?_)
        refine ev_E.goal (pc' := 71) (L' := [some (ev_o 10 a), some (ev_i x0), some (ev_i x1)]) (K' := []) (S' := S22) ?_ rfl rfl rfl hS22
        exact ev_return dX10_readsRepeat_71 rfl hQ
      · replace hQ := hQ.2 c5
        refine ev_iconst (1) dX10_readsRepeat_29 rfl ?_
        refine ev_goto 34 dX10_readsRepeat_30 (by decide) ?_
        refine ev_iconst (4) dX10_readsRepeat_34 rfl ?_
        refine ev_cV mv_X10_must 1 0 10 [ev_i 1, ev_i 4] [] dX10_readsRepeat_35 kw_1794 rfl (by decide) rfl (by omega) (by decide) (Nat.le_of_ble_eq_true rfl) hQ ?_ rfl
        rintro o S23 ⟨v19_, rfl, hQ⟩
        show ev_E g m_X10_readsRepeat (D + 1) 0 38 [some (ev_o 10 a), some (ev_i x0), some (ev_i x1)] [ev_i (if v19_ = true then 1 else 0)] S23 Q
        refine ev_pop dX10_readsRepeat_38 rfl ?_
        refine ev_aload_n (ev_o 10 a) dX10_readsRepeat_39 rfl rfl ?_
        refine ev_cV mv_X10_passes 3 0 10 [] [] dX10_readsRepeat_40 kw_1798 rfl (by decide) rfl (by omega) (by decide) (Nat.le_of_ble_eq_true rfl) hQ ?_ rfl
        rintro o S24 ⟨rfl, hQ⟩
        show ev_E g m_X10_readsRepeat (D + 1) 0 43 [some (ev_o 10 a), some (ev_i x0), some (ev_i x1)] [] S24 Q
        refine ev_aload_n (ev_o 10 a) dX10_readsRepeat_43 rfl rfl ?_
        refine ev_iload_n (x1) dX10_readsRepeat_44 rfl ?_
        refine ev_iconst (1) dX10_readsRepeat_45 rfl ?_
        refine ev_iadd dX10_readsRepeat_46 ?_
        refine ev_cV mv_X10_readsCommands D 0 10 [ev_i (x1 + 1)] [] dX10_readsRepeat_47 kw_1979 rfl (by decide) rfl (by omega) (by decide) (Nat.le_of_ble_eq_true rfl) hQ ?_ rfl
        rintro o S25 ⟨rfl, hQ⟩
        show ev_E g m_X10_readsRepeat (D + 1) 0 50 [some (ev_o 10 a), some (ev_i x0), some (ev_i x1)] [] S25 Q
        refine ev_aload_n (ev_o 10 a) dX10_readsRepeat_50 rfl rfl ?_
        refine ev_bipush (41) dX10_readsRepeat_51 (by decide) ?_
        refine ev_cV mv_X10_takesSign 4 0 10 [ev_i 41] [] dX10_readsRepeat_53 kw_1810 rfl (by decide) rfl (by omega) (by decide) (Nat.le_of_ble_eq_true rfl) hQ ?_ rfl
        rintro o S26 ⟨rfl, hQ⟩
        show ev_E g m_X10_readsRepeat (D + 1) 0 56 [some (ev_o 10 a), some (ev_i x0), some (ev_i x1)] [] S26 Q
        refine ev_aload_n (ev_o 10 a) dX10_readsRepeat_56 rfl rfl ?_
        refine gf_10_20 dX10_readsRepeat_57 kw_1873 ?_
        refine ev_bipush (6) dX10_readsRepeat_60 (by decide) ?_
        refine ev_iload_n (x0) dX10_readsRepeat_62 rfl ?_
        refine ev_imul dX10_readsRepeat_63 ?_
        refine ev_iconst (1) dX10_readsRepeat_64 rfl ?_
        refine ev_iadd dX10_readsRepeat_65 ?_
        refine ev_aload_n (ev_o 10 a) dX10_readsRepeat_66 rfl rfl ?_
        refine gf_10_21 dX10_readsRepeat_67 kw_1874 ?_
        obtain ⟨h6, hQ⟩ := hQ
        refine ev_iastore dX10_readsRepeat_70 h6 ?_
        refine ev_sub hQ (fun S27 hS27 hQ => ?_)
        refine ev_E.goal (pc' := 71) (L' := [some (ev_o 10 a), some (ev_i x0), some (ev_i x1)]) (K' := []) (S' := S27) ?_ rfl rfl rfl hS27
        exact ev_return dX10_readsRepeat_71 rfl hQ
    · rw [if_neg c4]
      replace hQ := hQ.2 c4
      refine ev_if_eq 39 dX10_readsRepeat_20 (by decide) (fun _ => ?_) (fun h9 => absurd (by decide : ((0 : Int32) = 0)) h9)
      refine ev_aload_n (ev_o 10 a) dX10_readsRepeat_39 rfl rfl ?_
      refine ev_cV mv_X10_passes 3 0 10 [] [] dX10_readsRepeat_40 kw_1798 rfl (by decide) rfl (by omega) (by decide) (Nat.le_of_ble_eq_true rfl) hQ ?_ rfl
      rintro o S28 ⟨rfl, hQ⟩
      show ev_E g m_X10_readsRepeat (D + 1) 0 43 [some (ev_o 10 a), some (ev_i x0), some (ev_i x1)] [] S28 Q
      refine ev_aload_n (ev_o 10 a) dX10_readsRepeat_43 rfl rfl ?_
      refine ev_iload_n (x1) dX10_readsRepeat_44 rfl ?_
      refine ev_iconst (1) dX10_readsRepeat_45 rfl ?_
      refine ev_iadd dX10_readsRepeat_46 ?_
      refine ev_cV mv_X10_readsCommands D 0 10 [ev_i (x1 + 1)] [] dX10_readsRepeat_47 kw_1979 rfl (by decide) rfl (by omega) (by decide) (Nat.le_of_ble_eq_true rfl) hQ ?_ rfl
      rintro o S29 ⟨rfl, hQ⟩
      show ev_E g m_X10_readsRepeat (D + 1) 0 50 [some (ev_o 10 a), some (ev_i x0), some (ev_i x1)] [] S29 Q
      refine ev_aload_n (ev_o 10 a) dX10_readsRepeat_50 rfl rfl ?_
      refine ev_bipush (41) dX10_readsRepeat_51 (by decide) ?_
      refine ev_cV mv_X10_takesSign 4 0 10 [ev_i 41] [] dX10_readsRepeat_53 kw_1810 rfl (by decide) rfl (by omega) (by decide) (Nat.le_of_ble_eq_true rfl) hQ ?_ rfl
      rintro o S30 ⟨rfl, hQ⟩
      show ev_E g m_X10_readsRepeat (D + 1) 0 56 [some (ev_o 10 a), some (ev_i x0), some (ev_i x1)] [] S30 Q
      refine ev_aload_n (ev_o 10 a) dX10_readsRepeat_56 rfl rfl ?_
      refine gf_10_20 dX10_readsRepeat_57 kw_1873 ?_
      refine ev_bipush (6) dX10_readsRepeat_60 (by decide) ?_
      refine ev_iload_n (x0) dX10_readsRepeat_62 rfl ?_
      refine ev_imul dX10_readsRepeat_63 ?_
      refine ev_iconst (1) dX10_readsRepeat_64 rfl ?_
      refine ev_iadd dX10_readsRepeat_65 ?_
      refine ev_aload_n (ev_o 10 a) dX10_readsRepeat_66 rfl rfl ?_
      refine gf_10_21 dX10_readsRepeat_67 kw_1874 ?_
      obtain ⟨h7, hQ⟩ := hQ
      refine ev_iastore dX10_readsRepeat_70 h7 ?_
      refine ev_sub hQ (fun S31 hS31 hQ => ?_)
      refine ev_E.goal (pc' := 71) (L' := [some (ev_o 10 a), some (ev_i x0), some (ev_i x1)]) (K' := []) (S' := S31) ?_ rfl rfl rfl hS31
      exact ev_return dX10_readsRepeat_71 rfl hQ
set_option maxHeartbeats 4000000 in
set_option maxRecDepth 100000 in
theorem sg_X10_keeps_0 {g : ev_G} {S : ev_S} {Q : ev_O → ev_S → Prop} (a : Nat) (hQ : ((S.1 a 6) = 8 → (
    ev_E g m_X10_keeps 1 0 11 [some (ev_o 10 a), some (ev_i 0)] [] S Q)) ∧
  (¬ ((S.1 a 6) = 8) → (
    ev_E g m_X10_keeps 1 0 52 [some (ev_o 10 a), some (ev_i 0)] [] S Q))) : ev_Cv g m_X10_keeps 1 0 [ev_o 10 a] S Q := by
  refine ev_enter (by decide) rfl rfl (Nat.le_of_ble_eq_true rfl) ?_
  show ev_E g m_X10_keeps 1 0 0 [some (ev_o 10 a), none] [] S Q
  refine ev_aload_n (ev_o 10 a) dX10_keeps_0 rfl rfl ?_
  refine gf_10_6 dX10_keeps_1 kw_1859 ?_
  refine ev_bipush (8) dX10_keeps_4 (by decide) ?_
  refine ev_icmp_ne 50 dX10_keeps_6 (by decide) (fun c1 => ?_) (fun c1 => ?_)
  · replace hQ := hQ.2 c1
    refine ev_iconst (0) dX10_keeps_50 rfl ?_
    refine ev_istore_n dX10_keeps_51 (Nat.le_of_ble_eq_true rfl) (ev_hw rfl) ?_
    show ev_E g m_X10_keeps 1 0 52 [some (ev_o 10 a), some (ev_i 0)] [] S Q
    exact hQ
  · replace hQ := hQ.1 c1
    refine ev_iconst (0) dX10_keeps_9 rfl ?_
    refine ev_istore_n dX10_keeps_10 (Nat.le_of_ble_eq_true rfl) (ev_hw rfl) ?_
    show ev_E g m_X10_keeps 1 0 11 [some (ev_o 10 a), some (ev_i 0)] [] S Q
    exact hQ
set_option maxHeartbeats 4000000 in
set_option maxRecDepth 100000 in
theorem sg_X10_keeps_52 {g : ev_G} {S : ev_S} {Q : ev_O → ev_S → Prop} (a : Nat) (u1 : Int32) (hQ : (2091 ≤ u1 → (
    ∀ S1 : ev_S, S1 = (ev_up S a 6 ((S.1 a 6) + 1)) → (
      Q (.inl none) S1))) ∧
  (¬ (2091 ≤ u1) → (
    (vp_in u1 2091) ∧ (
      (vp_in ((2091 * (S.1 a 6)) + u1) 16728) ∧ (
        ∀ S2 : ev_S, S2 = (ev_up S (a + 4) ((2091 * (S.1 a 6)) + u1).toNatClampNeg (S.1 (a + 1) u1.toNatClampNeg)) → (
          ev_E g m_X10_keeps 1 0 52 [some (ev_o 10 a), some (ev_i (u1 + 1))] [] S2 Q)))))) : ev_E g m_X10_keeps 1 0 52 [some (ev_o 10 a), some (ev_i u1)] [] S Q := by
  refine ev_iload_n (u1) dX10_keeps_52 rfl ?_
  refine ev_sipush (2091) dX10_keeps_53 (by decide) ?_
  refine ev_icmp_ge 86 dX10_keeps_56 (by decide) (fun c1 => ?_) (fun c1 => ?_)
  · replace hQ := hQ.1 c1
    refine ev_aload_n (ev_o 10 a) dX10_keeps_86 rfl rfl ?_
    refine ev_dup dX10_keeps_87 rfl ?_
    refine gf_10_6 dX10_keeps_88 kw_1859 ?_
    refine ev_iconst (1) dX10_keeps_91 rfl ?_
    refine ev_iadd dX10_keeps_92 ?_
    refine pf_10_6 dX10_keeps_93 kw_1859 ?_
    refine ev_sub hQ (fun S1 hS1 hQ => ?_)
    refine ev_E.goal (pc' := 96) (L' := [some (ev_o 10 a), some (ev_i u1)]) (K' := []) (S' := S1) ?_ rfl rfl rfl hS1
    exact ev_return dX10_keeps_96 rfl hQ
  · replace hQ := hQ.2 c1
    refine ev_aload_n (ev_o 10 a) dX10_keeps_59 rfl rfl ?_
    refine gf_10_3 dX10_keeps_60 kw_1856 ?_
    refine ev_sipush (2091) dX10_keeps_63 (by decide) ?_
    refine ev_aload_n (ev_o 10 a) dX10_keeps_66 rfl rfl ?_
    refine gf_10_6 dX10_keeps_67 kw_1859 ?_
    refine ev_imul dX10_keeps_70 ?_
    refine ev_iload_n (u1) dX10_keeps_71 rfl ?_
    refine ev_iadd dX10_keeps_72 ?_
    refine ev_aload_n (ev_o 10 a) dX10_keeps_73 rfl rfl ?_
    refine gf_10_0 dX10_keeps_74 kw_1853 ?_
    refine ev_iload_n (u1) dX10_keeps_77 rfl ?_
    obtain ⟨h1, hQ⟩ := hQ
    refine ev_iaload dX10_keeps_78 h1 ?_
    obtain ⟨h2, hQ⟩ := hQ
    refine ev_iastore dX10_keeps_79 h2 ?_
    refine ev_sub hQ (fun S2 hS2 hQ => ?_)
    refine ev_E.goal (pc' := 80) (L' := [some (ev_o 10 a), some (ev_i u1)]) (K' := []) (S' := S2) ?_ rfl rfl rfl hS2
    refine ev_iinc u1 (1) dX10_keeps_80 rfl (by decide) (ev_hw rfl) ?_
    show ev_E g m_X10_keeps 1 0 83 [some (ev_o 10 a), some (ev_i (u1 + 1))] [] S2 Q
    refine ev_goto 52 dX10_keeps_83 (by decide) ?_
    exact hQ
set_option maxHeartbeats 4000000 in
set_option maxRecDepth 100000 in
theorem sg_X10_keeps_11 {g : ev_G} {S : ev_S} {Q : ev_O → ev_S → Prop} (a : Nat) (u1 : Int32) (hQ : (14637 ≤ u1 → (
    ∀ S1 : ev_S, S1 = (ev_up S a 6 ((S.1 a 6) - 1)) → (
      ev_E g m_X10_keeps 1 0 52 [some (ev_o 10 a), some (ev_i 0)] [] S1 Q))) ∧
  (¬ (14637 ≤ u1) → (
    (vp_in (u1 + 2091) 16728) ∧ (
      (vp_in u1 16728) ∧ (
        ∀ S2 : ev_S, S2 = (ev_up S (a + 4) u1.toNatClampNeg (S.1 (a + 4) (u1 + 2091).toNatClampNeg)) → (
          ev_E g m_X10_keeps 1 0 11 [some (ev_o 10 a), some (ev_i (u1 + 1))] [] S2 Q)))))) : ev_E g m_X10_keeps 1 0 11 [some (ev_o 10 a), some (ev_i u1)] [] S Q := by
  refine ev_iload_n (u1) dX10_keeps_11 rfl ?_
  refine ev_sipush (14637) dX10_keeps_12 (by decide) ?_
  refine ev_icmp_ge 40 dX10_keeps_15 (by decide) (fun c1 => ?_) (fun c1 => ?_)
  · replace hQ := hQ.1 c1
    refine ev_aload_n (ev_o 10 a) dX10_keeps_40 rfl rfl ?_
    refine ev_dup dX10_keeps_41 rfl ?_
    refine gf_10_6 dX10_keeps_42 kw_1859 ?_
    refine ev_iconst (1) dX10_keeps_45 rfl ?_
    refine ev_isub dX10_keeps_46 ?_
    refine pf_10_6 dX10_keeps_47 kw_1859 ?_
    refine ev_sub hQ (fun S1 hS1 hQ => ?_)
    refine ev_E.goal (pc' := 50) (L' := [some (ev_o 10 a), some (ev_i u1)]) (K' := []) (S' := S1) ?_ rfl rfl rfl hS1
    refine ev_iconst (0) dX10_keeps_50 rfl ?_
    refine ev_istore_n dX10_keeps_51 (Nat.le_of_ble_eq_true rfl) (ev_hw rfl) ?_
    show ev_E g m_X10_keeps 1 0 52 [some (ev_o 10 a), some (ev_i 0)] [] S1 Q
    exact hQ
  · replace hQ := hQ.2 c1
    refine ev_aload_n (ev_o 10 a) dX10_keeps_18 rfl rfl ?_
    refine gf_10_3 dX10_keeps_19 kw_1856 ?_
    refine ev_iload_n (u1) dX10_keeps_22 rfl ?_
    refine ev_aload_n (ev_o 10 a) dX10_keeps_23 rfl rfl ?_
    refine gf_10_3 dX10_keeps_24 kw_1856 ?_
    refine ev_iload_n (u1) dX10_keeps_27 rfl ?_
    refine ev_sipush (2091) dX10_keeps_28 (by decide) ?_
    refine ev_iadd dX10_keeps_31 ?_
    obtain ⟨h1, hQ⟩ := hQ
    refine ev_iaload dX10_keeps_32 h1 ?_
    obtain ⟨h2, hQ⟩ := hQ
    refine ev_iastore dX10_keeps_33 h2 ?_
    refine ev_sub hQ (fun S2 hS2 hQ => ?_)
    refine ev_E.goal (pc' := 34) (L' := [some (ev_o 10 a), some (ev_i u1)]) (K' := []) (S' := S2) ?_ rfl rfl rfl hS2
    refine ev_iinc u1 (1) dX10_keeps_34 rfl (by decide) (ev_hw rfl) ?_
    show ev_E g m_X10_keeps 1 0 37 [some (ev_o 10 a), some (ev_i (u1 + 1))] [] S2 Q
    refine ev_goto 11 dX10_keeps_37 (by decide) ?_
    exact hQ
set_option maxHeartbeats 4000000 in
set_option maxRecDepth 100000 in
theorem sg_X10_changes_0 {g : ev_G} {S : ev_S} {Q : ev_O → ev_S → Prop} (a : Nat) (hQ : ((S.1 a 23) = 0 → (
    ev_Cv g m_X10_keeps 1 0 [ev_o 10 a] S (fun o S1 => o = .inl none ∧ (
      Q (.inl none) S1)))) ∧
  (¬ ((S.1 a 23) = 0) → (
    Q (.inl none) S))) : ev_Cv g m_X10_changes 2 0 [ev_o 10 a] S Q := by
  refine ev_enter (by decide) rfl rfl (Nat.le_of_ble_eq_true rfl) ?_
  show ev_E g m_X10_changes 2 0 0 [some (ev_o 10 a)] [] S Q
  refine ev_aload_n (ev_o 10 a) dX10_changes_0 rfl rfl ?_
  refine gf_10_23 dX10_changes_1 kw_1876 ?_
  refine ev_if_ne 11 dX10_changes_4 (by decide) (fun c1 => ?_) (fun c1 => ?_)
  · replace hQ := hQ.2 c1
    exact ev_return dX10_changes_11 rfl hQ
  · replace hQ := hQ.1 c1
    refine ev_aload_n (ev_o 10 a) dX10_changes_7 rfl rfl ?_
    refine ev_cV mv_X10_keeps 1 0 10 [] [] dX10_changes_8 kw_2009 rfl (by decide) rfl (by decide) (by decide) (Nat.le_of_ble_eq_true rfl) hQ ?_ rfl
    rintro o S1 ⟨rfl, hQ⟩
    show ev_E g m_X10_changes 2 0 11 [some (ev_o 10 a)] [] S1 Q
    exact ev_return dX10_changes_11 rfl hQ
