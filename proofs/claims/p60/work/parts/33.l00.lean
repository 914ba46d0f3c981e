set_option maxHeartbeats 4000000 in
set_option maxRecDepth 100000 in
theorem sg_X10_takes_0 {g : ev_G} {S : ev_S} {Q : ev_O → ev_S → Prop} (a : Nat) (b0 : Nat) (hQ : ev_E g m_X10_takes 1 0 2 [some (ev_o 10 a), some (ev_o 10 b0), some (ev_i 0)] [] S Q) : ev_Cv g m_X10_takes 1 0 [ev_o 10 a, ev_o 10 b0] S Q := by
  refine ev_enter (by decide) rfl rfl (Nat.le_of_ble_eq_true rfl) ?_
  show ev_E g m_X10_takes 1 0 0 [some (ev_o 10 a), some (ev_o 10 b0), none] [] S Q
  refine ev_iconst (0) dX10_takes_0 rfl ?_
  refine ev_istore_n dX10_takes_1 (Nat.le_of_ble_eq_true rfl) (ev_hw rfl) ?_
  show ev_E g m_X10_takes 1 0 2 [some (ev_o 10 a), some (ev_o 10 b0), some (ev_i 0)] [] S Q
  exact hQ
set_option maxHeartbeats 4000000 in
set_option maxRecDepth 100000 in
theorem sg_X10_takes_2 {g : ev_G} {S : ev_S} {Q : ev_O → ev_S → Prop} (a : Nat) (b0 : Nat) (u2 : Int32) (hQ : (64 ≤ u2 → (
    ev_E g m_X10_takes 1 0 28 [some (ev_o 10 a), some (ev_o 10 b0), some (ev_i 0)] [] S Q)) ∧
  (¬ (64 ≤ u2) → (
    (vp_in u2 64) ∧ (
      ∀ S1 : ev_S, S1 = (ev_up S (a + 1) u2.toNatClampNeg (S.1 (b0 + 1) u2.toNatClampNeg)) → (
        ev_E g m_X10_takes 1 0 2 [some (ev_o 10 a), some (ev_o 10 b0), some (ev_i (u2 + 1))] [] S1 Q))))) : ev_E g m_X10_takes 1 0 2 [some (ev_o 10 a), some (ev_o 10 b0), some (ev_i u2)] [] S Q := by
  refine ev_iload_n (u2) dX10_takes_2 rfl ?_
  refine ev_bipush (64) dX10_takes_3 (by decide) ?_
  refine ev_icmp_ge 26 dX10_takes_5 (by decide) (fun c1 => ?_) (fun c1 => ?_)
  · replace hQ := hQ.1 c1
    refine ev_iconst (0) dX10_takes_26 rfl ?_
    refine ev_istore_n dX10_takes_27 (Nat.le_of_ble_eq_true rfl) (ev_hw rfl) ?_
    show ev_E g m_X10_takes 1 0 28 [some (ev_o 10 a), some (ev_o 10 b0), some (ev_i 0)] [] S Q
    exact hQ
  · replace hQ := hQ.2 c1
    refine ev_aload_n (ev_o 10 a) dX10_takes_8 rfl rfl ?_
    refine gf_10_0 dX10_takes_9 kw_738 ?_
    refine ev_iload_n (u2) dX10_takes_12 rfl ?_
    refine ev_aload_n (ev_o 10 b0) dX10_takes_13 rfl rfl ?_
    refine gf_10_0 dX10_takes_14 kw_738 ?_
    refine ev_iload_n (u2) dX10_takes_17 rfl ?_
    obtain ⟨h1, hQ⟩ := hQ
    refine ev_iaload dX10_takes_18 h1 ?_
    refine ev_iastore dX10_takes_19 h1 ?_
    refine ev_sub hQ (fun S1 hS1 hQ => ?_)
    refine ev_E.goal (pc' := 20) (L' := [some (ev_o 10 a), some (ev_o 10 b0), some (ev_i u2)]) (K' := []) (S' := S1) ?_ rfl rfl rfl hS1
    refine ev_iinc u2 (1) dX10_takes_20 rfl (by decide) (ev_hw rfl) ?_
    show ev_E g m_X10_takes 1 0 23 [some (ev_o 10 a), some (ev_o 10 b0), some (ev_i (u2 + 1))] [] S1 Q
    refine ev_goto 2 dX10_takes_23 (by decide) ?_
    exact hQ
set_option maxHeartbeats 4000000 in
set_option maxRecDepth 100000 in
theorem sg_X10_takes_28 {g : ev_G} {S : ev_S} {Q : ev_O → ev_S → Prop} (a : Nat) (b0 : Nat) (u2 : Int32) (hQ : (61 ≤ u2 → (
    ∀ S1 : ev_S, S1 = (ev_up S a 6 (S.1 b0 6)) → (
      ∀ S2 : ev_S, S2 = (ev_up S1 a 7 (S1.1 b0 7)) → (
        ∀ S3 : ev_S, S3 = (ev_up S2 a 8 (S2.1 b0 8)) → (
          ∀ S4 : ev_S, S4 = (ev_up S3 a 9 (S3.1 b0 9)) → (
            ∀ S5 : ev_S, S5 = (ev_up S4 a 10 (S4.1 b0 10)) → (
              ∀ S6 : ev_S, S6 = (ev_up S5 a 11 (S5.1 b0 11)) → (
                Q (.inl none) S6)))))))) ∧
  (¬ (61 ≤ u2) → (
    (vp_in u2 61) ∧ (
      ∀ S7 : ev_S, S7 = (ev_up S (a + 2) u2.toNatClampNeg (S.1 (b0 + 2) u2.toNatClampNeg)) → (
        ∀ S8 : ev_S, S8 = (ev_up S7 (a + 3) u2.toNatClampNeg (S7.1 (b0 + 3) u2.toNatClampNeg)) → (
          ∀ S9 : ev_S, S9 = (ev_up S8 (a + 4) u2.toNatClampNeg (S8.1 (b0 + 4) u2.toNatClampNeg)) → (
            ∀ S10 : ev_S, S10 = (ev_up S9 (a + 5) u2.toNatClampNeg (S9.1 (b0 + 5) u2.toNatClampNeg)) → (
              (vp_nar .boolean (S10.1 (b0 + 6) u2.toNatClampNeg) = (S10.1 (b0 + 6) u2.toNatClampNeg)) ∧ (
                ∀ S11 : ev_S, S11 = (ev_up S10 (a + 6) u2.toNatClampNeg (S10.1 (b0 + 6) u2.toNatClampNeg)) → (
                  ev_E g m_X10_takes 1 0 28 [some (ev_o 10 a), some (ev_o 10 b0), some (ev_i (u2 + 1))] [] S11 Q)))))))))) : ev_E g m_X10_takes 1 0 28 [some (ev_o 10 a), some (ev_o 10 b0), some (ev_i u2)] [] S Q := by
  refine ev_iload_n (u2) dX10_takes_28 rfl ?_
  refine ev_bipush (61) dX10_takes_29 (by decide) ?_
  refine ev_icmp_ge 100 dX10_takes_31 (by decide) (fun c1 => ?_) (fun c1 => ?_)
  · replace hQ := hQ.1 c1
    refine ev_aload_n (ev_o 10 a) dX10_takes_100 rfl rfl ?_
    refine ev_aload_n (ev_o 10 b0) dX10_takes_101 rfl rfl ?_
    refine gf_10_6 dX10_takes_102 kw_754 ?_
    refine pf_10_6 dX10_takes_105 kw_754 ?_
    refine ev_sub hQ (fun S1 hS1 hQ => ?_)
    refine ev_E.goal (pc' := 108) (L' := [some (ev_o 10 a), some (ev_o 10 b0), some (ev_i u2)]) (K' := []) (S' := S1) ?_ rfl rfl rfl hS1
    refine ev_aload_n (ev_o 10 a) dX10_takes_108 rfl rfl ?_
    refine ev_aload_n (ev_o 10 b0) dX10_takes_109 rfl rfl ?_
    refine gf_10_7 dX10_takes_110 kw_757 ?_
    refine pf_10_7 dX10_takes_113 kw_757 ?_
    refine ev_sub hQ (fun S2 hS2 hQ => ?_)
    refine ev_E.goal (pc' := 116) (L' := [some (ev_o 10 a), some (ev_o 10 b0), some (ev_i u2)]) (K' := []) (S' := S2) ?_ rfl rfl rfl hS2
    refine ev_aload_n (ev_o 10 a) dX10_takes_116 rfl rfl ?_
    refine ev_aload_n (ev_o 10 b0) dX10_takes_117 rfl rfl ?_
    refine gf_10_8 dX10_takes_118 kw_759 ?_
    refine pf_10_8 dX10_takes_121 kw_759 ?_
    refine ev_sub hQ (fun S3 hS3 hQ => ?_)
    refine ev_E.goal (pc' := 124) (L' := [some (ev_o 10 a), some (ev_o 10 b0), some (ev_i u2)]) (K' := []) (S' := S3) ?_ rfl rfl rfl hS3
    refine ev_aload_n (ev_o 10 a) dX10_takes_124 rfl rfl ?_
    refine ev_aload_n (ev_o 10 b0) dX10_takes_125 rfl rfl ?_
    refine gf_10_9 dX10_takes_126 kw_762 ?_
    refine pf_10_9 dX10_takes_129 kw_762 ?_
    refine ev_sub hQ (fun S4 hS4 hQ => ?_)
    refine ev_E.goal (pc' := 132) (L' := [some (ev_o 10 a), some (ev_o 10 b0), some (ev_i u2)]) (K' := []) (S' := S4) ?_ rfl rfl rfl hS4
    refine ev_aload_n (ev_o 10 a) dX10_takes_132 rfl rfl ?_
    refine ev_aload_n (ev_o 10 b0) dX10_takes_133 rfl rfl ?_
    refine gf_10_10 dX10_takes_134 kw_765 ?_
    refine pf_10_10 dX10_takes_137 kw_765 ?_
    refine ev_sub hQ (fun S5 hS5 hQ => ?_)
    refine ev_E.goal (pc' := 140) (L' := [some (ev_o 10 a), some (ev_o 10 b0), some (ev_i u2)]) (K' := []) (S' := S5) ?_ rfl rfl rfl hS5
    refine ev_aload_n (ev_o 10 a) dX10_takes_140 rfl rfl ?_
    refine ev_aload_n (ev_o 10 b0) dX10_takes_141 rfl rfl ?_
    refine gf_10_11 dX10_takes_142 kw_768 ?_
    refine pf_10_11 dX10_takes_145 kw_768 ?_
    refine ev_sub hQ (fun S6 hS6 hQ => ?_)
    refine ev_E.goal (pc' := 148) (L' := [some (ev_o 10 a), some (ev_o 10 b0), some (ev_i u2)]) (K' := []) (S' := S6) ?_ rfl rfl rfl hS6
    exact ev_return dX10_takes_148 rfl hQ
  · replace hQ := hQ.2 c1
    refine ev_aload_n (ev_o 10 a) dX10_takes_34 rfl rfl ?_
    refine gf_10_1 dX10_takes_35 kw_741 ?_
    refine ev_iload_n (u2) dX10_takes_38 rfl ?_
    refine ev_aload_n (ev_o 10 b0) dX10_takes_39 rfl rfl ?_
    refine gf_10_1 dX10_takes_40 kw_741 ?_
    refine ev_iload_n (u2) dX10_takes_43 rfl ?_
    obtain ⟨h1, hQ⟩ := hQ
    refine ev_iaload dX10_takes_44 h1 ?_
    refine ev_iastore dX10_takes_45 h1 ?_
    refine ev_sub hQ (fun S7 hS7 hQ => ?_)
    refine ev_E.goal (pc' := 46) (L' := [some (ev_o 10 a), some (ev_o 10 b0), some (ev_i u2)]) (K' := []) (S' := S7) ?_ rfl rfl rfl hS7
    refine ev_aload_n (ev_o 10 a) dX10_takes_46 rfl rfl ?_
    refine gf_10_2 dX10_takes_47 kw_744 ?_
    refine ev_iload_n (u2) dX10_takes_50 rfl ?_
    refine ev_aload_n (ev_o 10 b0) dX10_takes_51 rfl rfl ?_
    refine gf_10_2 dX10_takes_52 kw_744 ?_
    refine ev_iload_n (u2) dX10_takes_55 rfl ?_
    refine ev_iaload dX10_takes_56 h1 ?_
    refine ev_iastore dX10_takes_57 h1 ?_
    refine ev_sub hQ (fun S8 hS8 hQ => ?_)
    refine ev_E.goal (pc' := 58) (L' := [some (ev_o 10 a), some (ev_o 10 b0), some (ev_i u2)]) (K' := []) (S' := S8) ?_ rfl rfl rfl hS8
    refine ev_aload_n (ev_o 10 a) dX10_takes_58 rfl rfl ?_
    refine gf_10_3 dX10_takes_59 kw_747 ?_
    refine ev_iload_n (u2) dX10_takes_62 rfl ?_
    refine ev_aload_n (ev_o 10 b0) dX10_takes_63 rfl rfl ?_
    refine gf_10_3 dX10_takes_64 kw_747 ?_
    refine ev_iload_n (u2) dX10_takes_67 rfl ?_
    refine ev_iaload dX10_takes_68 h1 ?_
    refine ev_iastore dX10_takes_69 h1 ?_
    refine ev_sub hQ (fun S9 hS9 hQ => ?_)
    refine ev_E.goal (pc' := 70) (L' := [some (ev_o 10 a), some (ev_o 10 b0), some (ev_i u2)]) (K' := []) (S' := S9) ?_ rfl rfl rfl hS9
    refine ev_aload_n (ev_o 10 a) dX10_takes_70 rfl rfl ?_
    refine gf_10_4 dX10_takes_71 kw_750 ?_
    refine ev_iload_n (u2) dX10_takes_74 rfl ?_
    refine ev_aload_n (ev_o 10 b0) dX10_takes_75 rfl rfl ?_
    refine gf_10_4 dX10_takes_76 kw_750 ?_
    refine ev_iload_n (u2) dX10_takes_79 rfl ?_
    refine ev_iaload dX10_takes_80 h1 ?_
    refine ev_iastore dX10_takes_81 h1 ?_
    refine ev_sub hQ (fun S10 hS10 hQ => ?_)
    refine ev_E.goal (pc' := 82) (L' := [some (ev_o 10 a), some (ev_o 10 b0), some (ev_i u2)]) (K' := []) (S' := S10) ?_ rfl rfl rfl hS10
    refine ev_aload_n (ev_o 10 a) dX10_takes_82 rfl rfl ?_
    refine gf_10_5 dX10_takes_83 kw_752 ?_
    refine ev_iload_n (u2) dX10_takes_86 rfl ?_
    refine ev_aload_n (ev_o 10 b0) dX10_takes_87 rfl rfl ?_
    refine gf_10_5 dX10_takes_88 kw_752 ?_
    refine ev_iload_n (u2) dX10_takes_91 rfl ?_
    refine ev_baload (n := 61) (by decide) dX10_takes_92 h1 ?_
    obtain ⟨h2, hQ⟩ := hQ
    refine ev_bastore (n := 61) (by decide) dX10_takes_93 h1 h2 ?_
    refine ev_sub hQ (fun S11 hS11 hQ => ?_)
    refine ev_E.goal (pc' := 94) (L' := [some (ev_o 10 a), some (ev_o 10 b0), some (ev_i u2)]) (K' := []) (S' := S11) ?_ rfl rfl rfl hS11
    refine ev_iinc u2 (1) dX10_takes_94 rfl (by decide) (ev_hw rfl) ?_
    show ev_E g m_X10_takes 1 0 97 [some (ev_o 10 a), some (ev_o 10 b0), some (ev_i (u2 + 1))] [] S11 Q
    refine ev_goto 28 dX10_takes_97 (by decide) ?_
    exact hQ
set_option maxHeartbeats 4000000 in
set_option maxRecDepth 100000 in
theorem sg_X10_bishops_0 {g : ev_G} {S : ev_S} {Q : ev_O → ev_S → Prop} (a : Nat) (x0 : Int32) (hQ : ev_E g m_X10_bishops 1 0 4 [some (ev_o 10 a), some (ev_i x0), some (ev_i 0), some (ev_i 0)] [] S Q) : ev_Cv g m_X10_bishops 1 0 [ev_o 10 a, ev_i x0] S Q := by
  refine ev_enter (by decide) rfl rfl (Nat.le_of_ble_eq_true rfl) ?_
  show ev_E g m_X10_bishops 1 0 0 [some (ev_o 10 a), some (ev_i x0), none, none] [] S Q
  refine ev_iconst (0) dX10_bishops_0 rfl ?_
  refine ev_istore_n dX10_bishops_1 (Nat.le_of_ble_eq_true rfl) (ev_hw rfl) ?_
  show ev_E g m_X10_bishops 1 0 2 [some (ev_o 10 a), some (ev_i x0), some (ev_i 0), none] [] S Q
  refine ev_iconst (0) dX10_bishops_2 rfl ?_
  refine ev_istore_n dX10_bishops_3 (Nat.le_of_ble_eq_true rfl) (ev_hw rfl) ?_
  show ev_E g m_X10_bishops 1 0 4 [some (ev_o 10 a), some (ev_i x0), some (ev_i 0), some (ev_i 0)] [] S Q
  exact hQ
set_option maxHeartbeats 4000000 in
set_option maxRecDepth 100000 in
theorem sg_X10_bishops_4 {g : ev_G} {S : ev_S} {Q : ev_O → ev_S → Prop} (a : Nat) (u1 : Int32) (u2 : Int32) (u3 : Int32) (hQ : (64 ≤ u3 → (
    Q (.inl (some (ev_i u2))) S)) ∧
  (¬ (64 ≤ u3) → (
    (vp_in u3 64) ∧ (
      ((S.1 (a + 1) u3.toNatClampNeg) = u1 → (
        ev_E g m_X10_bishops 1 0 4 [some (ev_o 10 a), some (ev_i u1), some (ev_i (u2 + 1)), some (ev_i (u3 + 1))] [] S Q)) ∧
      (¬ ((S.1 (a + 1) u3.toNatClampNeg) = u1) → (
        ev_E g m_X10_bishops 1 0 4 [some (ev_o 10 a), some (ev_i u1), some (ev_i (u2 + 0)), some (ev_i (u3 + 1))] [] S Q)))))) : ev_E g m_X10_bishops 1 0 4 [some (ev_o 10 a), some (ev_i u1), some (ev_i u2), some (ev_i u3)] [] S Q := by
  refine ev_iload_n (u3) dX10_bishops_4 rfl ?_
  refine ev_bipush (64) dX10_bishops_5 (by decide) ?_
  refine ev_icmp_ge 34 dX10_bishops_7 (by decide) (fun c1 => ?_) (fun c1 => ?_)
  · replace hQ := hQ.1 c1
    refine ev_iload_n (u2) dX10_bishops_34 rfl ?_
    exact ev_ireturn .int dX10_bishops_35 rfl rfl hQ
  · replace hQ := hQ.2 c1
    refine ev_iload_n (u2) dX10_bishops_10 rfl ?_
    refine ev_aload_n (ev_o 10 a) dX10_bishops_11 rfl rfl ?_
    refine gf_10_0 dX10_bishops_12 kw_738 ?_
    refine ev_iload_n (u3) dX10_bishops_15 rfl ?_
    obtain ⟨h1, hQ⟩ := hQ
    refine ev_iaload dX10_bishops_16 h1 ?_
    refine ev_iload_n (u1) dX10_bishops_17 rfl ?_
    refine ev_icmp_ne 25 dX10_bishops_18 (by decide) (fun c2 => ?_) (fun c2 => ?_)
    · replace hQ := hQ.2 c2
      refine ev_iconst (0) dX10_bishops_25 rfl ?_
      refine ev_iadd dX10_bishops_26 ?_
      refine ev_istore_n dX10_bishops_27 (Nat.le_of_ble_eq_true rfl) (ev_hw rfl) ?_
      show ev_E g m_X10_bishops 1 0 28 [some (ev_o 10 a), some (ev_i u1), some (ev_i (u2 + 0)), some (ev_i u3)] [] S Q
      refine ev_iinc u3 (1) dX10_bishops_28 rfl (by decide) (ev_hw rfl) ?_
      show ev_E g m_X10_bishops 1 0 31 [some (ev_o 10 a), some (ev_i u1), some (ev_i (u2 + 0)), some (ev_i (u3 + 1))] [] S Q
      refine ev_goto 4 dX10_bishops_31 (by decide) ?_
      exact hQ
    · replace hQ := hQ.1 c2
      refine ev_iconst (1) dX10_bishops_21 rfl ?_
      refine ev_goto 26 dX10_bishops_22 (by decide) ?_
      refine ev_iadd dX10_bishops_26 ?_
      refine ev_istore_n dX10_bishops_27 (Nat.le_of_ble_eq_true rfl) (ev_hw rfl) ?_
      show ev_E g m_X10_bishops 1 0 28 [some (ev_o 10 a), some (ev_i u1), some (ev_i (u2 + 1)), some (ev_i u3)] [] S Q
      refine ev_iinc u3 (1) dX10_bishops_28 rfl (by decide) (ev_hw rfl) ?_
      show ev_E g m_X10_bishops 1 0 31 [some (ev_o 10 a), some (ev_i u1), some (ev_i (u2 + 1)), some (ev_i (u3 + 1))] [] S Q
      refine ev_goto 4 dX10_bishops_31 (by decide) ?_
      exact hQ
set_option maxHeartbeats 4000000 in
set_option maxRecDepth 100000 in
theorem sg_X10_canGo_0 {g : ev_G} {S : ev_S} {Q : ev_O → ev_S → Prop} (a : Nat) (x0 : Int32) (x1 : Int32) (x2 : Int32) (hQ : (vp_in x1 64) ∧ (
    ev_E g m_X10_canGo 1 0 11 [some (ev_o 10 a), some (ev_i x0), some (ev_i x1), some (ev_i x2), some (ev_i (S.1 (a + 1) x1.toNatClampNeg)), some (ev_i 0), none, none, none] [] S Q)) : ev_Cv g m_X10_canGo 1 0 [ev_o 10 a, ev_i x0, ev_i x1, ev_i x2] S Q := by
  refine ev_enter (by decide) rfl rfl (Nat.le_of_ble_eq_true rfl) ?_
  show ev_E g m_X10_canGo 1 0 0 [some (ev_o 10 a), some (ev_i x0), some (ev_i x1), some (ev_i x2), none, none, none, none, none] [] S Q
  refine ev_aload_n (ev_o 10 a) dX10_canGo_0 rfl rfl ?_
  refine gf_10_0 dX10_canGo_1 kw_738 ?_
  refine ev_iload_n (x1) dX10_canGo_4 rfl ?_
  obtain ⟨h1, hQ⟩ := hQ
  refine ev_iaload dX10_canGo_5 h1 ?_
  refine ev_istore dX10_canGo_6 (Nat.le_of_ble_eq_true rfl) (ev_hw rfl) ?_
  show ev_E g m_X10_canGo 1 0 8 [some (ev_o 10 a), some (ev_i x0), some (ev_i x1), some (ev_i x2), some (ev_i (S.1 (a + 1) x1.toNatClampNeg)), none, none, none, none] [] S Q
  refine ev_iconst (0) dX10_canGo_8 rfl ?_
  refine ev_istore dX10_canGo_9 (Nat.le_of_ble_eq_true rfl) (ev_hw rfl) ?_
  show ev_E g m_X10_canGo 1 0 11 [some (ev_o 10 a), some (ev_i x0), some (ev_i x1), some (ev_i x2), some (ev_i (S.1 (a + 1) x1.toNatClampNeg)), some (ev_i 0), none, none, none] [] S Q
  exact hQ
set_option maxHeartbeats 4000000 in
set_option maxRecDepth 100000 in
theorem sg_X10_canGo_11 {g : ev_G} {S : ev_S} {Q : ev_O → ev_S → Prop} (a : Nat) (u1 : Int32) (u2 : Int32) (u3 : Int32) (u4 : Int32) (u5 : Int32) (hQ : (4 ≤ u5 → (
    Q (.inl (some (ev_i 0))) S)) ∧
  (¬ (4 ≤ u5) → (
    (u4 < 0 → (
      Q (.inl (some (ev_i 0))) S)) ∧
    (¬ (u4 < 0) → (
      (¬ u1 = 0) ∧ (
        ev_E g m_X10_canGo 1 0 35 [some (ev_o 10 a), some (ev_i u1), some (ev_i u2), some (ev_i u3), some (ev_i u4), some (ev_i u5), some (ev_i (u2 / u1)), some (ev_i (ev_rem u2 u1)), some (ev_i 1)] [] S Q)))))) : ev_E g m_X10_canGo 1 0 11 [some (ev_o 10 a), some (ev_i u1), some (ev_i u2), some (ev_i u3), some (ev_i u4), some (ev_i u5), none, none, none] [] S Q := by
  refine ev_iload (u5) dX10_canGo_11 rfl ?_
  refine ev_iconst (4) dX10_canGo_13 rfl ?_
  refine ev_icmp_ge 173 dX10_canGo_14 (by decide) (fun c1 => ?_) (fun c1 => ?_)
  · replace hQ := hQ.1 c1
    refine ev_iconst (0) dX10_canGo_173 rfl ?_
    exact ev_ireturn .boolean dX10_canGo_174 rfl rfl hQ
  · replace hQ := hQ.2 c1
    refine ev_iload (u4) dX10_canGo_17 rfl ?_
    refine ev_if_lt 173 dX10_canGo_19 (by decide) (fun c2 => ?_) (fun c2 => ?_)
    · replace hQ := hQ.1 c2
      refine ev_iconst (0) dX10_canGo_173 rfl ?_
      exact ev_ireturn .boolean dX10_canGo_174 rfl rfl hQ
    · replace hQ := hQ.2 c2
      refine ev_iload_n (u2) dX10_canGo_22 rfl ?_
      refine ev_iload_n (u1) dX10_canGo_23 rfl ?_
      obtain ⟨h1, hQ⟩ := hQ
      refine ev_idiv dX10_canGo_24 h1 ?_
      refine ev_istore dX10_canGo_25 (Nat.le_of_ble_eq_true rfl) (ev_hw rfl) ?_
      show ev_E g m_X10_canGo 1 0 27 [some (ev_o 10 a), some (ev_i u1), some (ev_i u2), some (ev_i u3), some (ev_i u4), some (ev_i u5), some (ev_i (u2 / u1)), none, none] [] S Q
      refine ev_iload_n (u2) dX10_canGo_27 rfl ?_
      refine ev_iload_n (u1) dX10_canGo_28 rfl ?_
      refine ev_irem dX10_canGo_29 h1 ?_
      refine ev_istore dX10_canGo_30 (Nat.le_of_ble_eq_true rfl) (ev_hw rfl) ?_
      show ev_E g m_X10_canGo 1 0 32 [some (ev_o 10 a), some (ev_i u1), some (ev_i u2), some (ev_i u3), some (ev_i u4), some (ev_i u5), some (ev_i (u2 / u1)), some (ev_i (ev_rem u2 u1)), none] [] S Q
      refine ev_iconst (1) dX10_canGo_32 rfl ?_
      refine ev_istore dX10_canGo_33 (Nat.le_of_ble_eq_true rfl) (ev_hw rfl) ?_
      show ev_E g m_X10_canGo 1 0 35 [some (ev_o 10 a), some (ev_i u1), some (ev_i u2), some (ev_i u3), some (ev_i u4), some (ev_i u5), some (ev_i (u2 / u1)), some (ev_i (ev_rem u2 u1)), some (ev_i 1)] [] S Q
      exact hQ
set_option maxHeartbeats 4000000 in
set_option maxRecDepth 100000 in
theorem sg_X10_canGo_35 {g : ev_G} {S : ev_S} {Q : ev_O → ev_S → Prop} (a : Nat) (u1 : Int32) (u2 : Int32) (u3 : Int32) (u4 : Int32) (u5 : Int32) (u6 : Int32) (u7 : Int32) (u8 : Int32) (hQ : (u8 = 0 → (
    ev_E g m_X10_canGo 1 0 11 [some (ev_o 10 a), some (ev_i u1), some (ev_i u2), some (ev_i u3), some (ev_i u4), some (ev_i (u5 + 1)), none, none, none] [] S Q)) ∧
  (¬ (u8 = 0) → (
    (2 ≤ u5 → (
      ((ev_rem u5 2) = 0 → (
        ev_E g m_X10_canGo 1 0 73 [some (ev_o 10 a), some (ev_i u1), some (ev_i u2), some (ev_i u3), some (ev_i u4), some (ev_i u5), some (ev_i (u6 + (-1))), some (ev_i (u7 + 1)), none] [] S Q)) ∧
      (¬ ((ev_rem u5 2) = 0) → (
        ev_E g m_X10_canGo 1 0 73 [some (ev_o 10 a), some (ev_i u1), some (ev_i u2), some (ev_i u3), some (ev_i u4), some (ev_i u5), some (ev_i (u6 + (-1))), some (ev_i (u7 + (-1))), none] [] S Q)))) ∧
    (¬ (2 ≤ u5) → (
      ((ev_rem u5 2) = 0 → (
        ev_E g m_X10_canGo 1 0 73 [some (ev_o 10 a), some (ev_i u1), some (ev_i u2), some (ev_i u3), some (ev_i u4), some (ev_i u5), some (ev_i (u6 + 1)), some (ev_i (u7 + 1)), none] [] S Q)) ∧
      (¬ ((ev_rem u5 2) = 0) → (
        ev_E g m_X10_canGo 1 0 73 [some (ev_o 10 a), some (ev_i u1), some (ev_i u2), some (ev_i u3), some (ev_i u4), some (ev_i u5), some (ev_i (u6 + 1)), some (ev_i (u7 + (-1))), none] [] S Q))))))) : ev_E g m_X10_canGo 1 0 35 [some (ev_o 10 a), some (ev_i u1), some (ev_i u2), some (ev_i u3), some (ev_i u4), some (ev_i u5), some (ev_i u6), some (ev_i u7), some (ev_i u8)] [] S Q := by
  refine ev_iload (u8) dX10_canGo_35 rfl ?_
  refine ev_if_eq 167 dX10_canGo_37 (by decide) (fun c1 => ?_) (fun c1 => ?_)
  · replace hQ := hQ.1 c1
    refine ev_iinc u5 (1) dX10_canGo_167 rfl (by decide) (ev_hw rfl) ?_
    show ev_E g m_X10_canGo 1 0 170 [some (ev_o 10 a), some (ev_i u1), some (ev_i u2), some (ev_i u3), some (ev_i u4), some (ev_i (u5 + 1)), some (ev_i u6), some (ev_i u7), some (ev_i u8)] [] S Q
    refine ev_goto 11 dX10_canGo_170 (by decide) ?_
    refine ev_fgm [true, true, true, true, true, true, false, false, false] ?_
    exact hQ
  · replace hQ := hQ.2 c1
    refine ev_iload (u6) dX10_canGo_40 rfl ?_
    refine ev_iload (u5) dX10_canGo_42 rfl ?_
    refine ev_iconst (2) dX10_canGo_44 rfl ?_
    refine ev_icmp_ge 52 dX10_canGo_45 (by decide) (fun c2 => ?_) (fun c2 => ?_)
    · replace hQ := hQ.1 c2
      refine ev_iconst (-1) dX10_canGo_52 rfl ?_
      refine ev_iadd dX10_canGo_53 ?_
      refine ev_istore dX10_canGo_54 (Nat.le_of_ble_eq_true rfl) (ev_hw rfl) ?_
      show ev_E g m_X10_canGo 1 0 56 [some (ev_o 10 a), some (ev_i u1), some (ev_i u2), some (ev_i u3), some (ev_i u4), some (ev_i u5), some (ev_i (u6 + (-1))), some (ev_i u7), some (ev_i u8)] [] S Q
      refine ev_iload (u7) dX10_canGo_56 rfl ?_
      refine ev_iload (u5) dX10_canGo_58 rfl ?_
      refine ev_iconst (2) dX10_canGo_60 rfl ?_
      refine ev_irem dX10_canGo_61 (by decide) ?_
      refine ev_if_ne 69 dX10_canGo_62 (by decide) (fun c3 => ?_) (fun c3 => ?_)
      · replace hQ := hQ.2 c3
        refine ev_iconst (-1) dX10_canGo_69 rfl ?_
        refine ev_iadd dX10_canGo_70 ?_
        refine ev_istore dX10_canGo_71 (Nat.le_of_ble_eq_true rfl) (ev_hw rfl) ?_
        show ev_E g m_X10_canGo 1 0 73 [some (ev_o 10 a), some (ev_i u1), some (ev_i u2), some (ev_i u3), some (ev_i u4), some (ev_i u5), some (ev_i (u6 + (-1))), some (ev_i (u7 + (-1))), some (ev_i u8)] [] S Q
        refine ev_fgm [true, true, true, true, true, true, true, true, false] ?_
        exact hQ
      · replace hQ := hQ.1 c3
        refine ev_iconst (1) dX10_canGo_65 rfl ?_
        refine ev_goto 70 dX10_canGo_66 (by decide) ?_
        refine ev_iadd dX10_canGo_70 ?_
        refine ev_istore dX10_canGo_71 (Nat.le_of_ble_eq_true rfl) (ev_hw rfl) ?_
        show ev_E g m_X10_canGo 1 0 73 [some (ev_o 10 a), some (ev_i u1), some (ev_i u2), some (ev_i u3), some (ev_i u4), some (ev_i u5), some (ev_i (u6 + (-1))), some (ev_i (u7 + 1)), some (ev_i u8)] [] S Q
        refine ev_fgm [true, true, true, true, true, true, true, true, false] ?_
        exact hQ
    · replace hQ := hQ.2 c2
      refine ev_iconst (1) dX10_canGo_48 rfl ?_
      refine ev_goto 53 dX10_canGo_49 (by decide) ?_
      refine ev_iadd dX10_canGo_53 ?_
      refine ev_istore dX10_canGo_54 (Nat.le_of_ble_eq_true rfl) (ev_hw rfl) ?_
      show ev_E g m_X10_canGo 1 0 56 [some (ev_o 10 a), some (ev_i u1), some (ev_i u2), some (ev_i u3), some (ev_i u4), some (ev_i u5), some (ev_i (u6 + 1)), some (ev_i u7), some (ev_i u8)] [] S Q
      refine ev_iload (u7) dX10_canGo_56 rfl ?_
      refine ev_iload (u5) dX10_canGo_58 rfl ?_
      refine ev_iconst (2) dX10_canGo_60 rfl ?_
      refine ev_irem dX10_canGo_61 (by decide) ?_
      refine ev_if_ne 69 dX10_canGo_62 (by decide) (fun c4 => ?_) (fun c4 => ?_)
      · replace hQ := hQ.2 c4
        refine ev_iconst (-1) dX10_canGo_69 rfl ?_
        refine ev_iadd dX10_canGo_70 ?_
        refine ev_istore dX10_canGo_71 (Nat.le_of_ble_eq_true rfl) (ev_hw rfl) ?_
        show ev_E g m_X10_canGo 1 0 73 [some (ev_o 10 a), some (ev_i u1), some (ev_i u2), some (ev_i u3), some (ev_i u4), some (ev_i u5), some (ev_i (u6 + 1)), some (ev_i (u7 + (-1))), some (ev_i u8)] [] S Q
        refine ev_fgm [true, true, true, true, true, true, true, true, false] ?_
        exact hQ
      · replace hQ := hQ.1 c4
        refine ev_iconst (1) dX10_canGo_65 rfl ?_
        refine ev_goto 70 dX10_canGo_66 (by decide) ?_
        refine ev_iadd dX10_canGo_70 ?_
        refine ev_istore dX10_canGo_71 (Nat.le_of_ble_eq_true rfl) (ev_hw rfl) ?_
        show ev_E g m_X10_canGo 1 0 73 [some (ev_o 10 a), some (ev_i u1), some (ev_i u2), some (ev_i u3), some (ev_i u4), some (ev_i u5), some (ev_i (u6 + 1)), some (ev_i (u7 + 1)), some (ev_i u8)] [] S Q
        refine ev_fgm [true, true, true, true, true, true, true, true, false] ?_
        exact hQ
set_option maxHeartbeats 4000000 in
set_option maxRecDepth 100000 in
theorem sg_X10_canGo_73 {g : ev_G} {S : ev_S} {Q : ev_O → ev_S → Prop} (a : Nat) (u1 : Int32) (u2 : Int32) (u3 : Int32) (u4 : Int32) (u5 : Int32) (u6 : Int32) (u7 : Int32) (hQ : (u6 < 0 → (
    ev_E g m_X10_canGo 1 0 119 [some (ev_o 10 a), some (ev_i u1), some (ev_i u2), some (ev_i u3), some (ev_i u4), some (ev_i u5), some (ev_i u6), some (ev_i u7), some (ev_i 0)] [] S Q)) ∧
  (¬ (u6 < 0) → (
    (u7 < 0 → (
      ev_E g m_X10_canGo 1 0 119 [some (ev_o 10 a), some (ev_i u1), some (ev_i u2), some (ev_i u3), some (ev_i u4), some (ev_i u5), some (ev_i u6), some (ev_i u7), some (ev_i 0)] [] S Q)) ∧
    (¬ (u7 < 0) → (
      (u1 ≤ u6 → (
        ev_E g m_X10_canGo 1 0 119 [some (ev_o 10 a), some (ev_i u1), some (ev_i u2), some (ev_i u3), some (ev_i u4), some (ev_i u5), some (ev_i u6), some (ev_i u7), some (ev_i 0)] [] S Q)) ∧
      (¬ (u1 ≤ u6) → (
        (u1 ≤ u7 → (
          ev_E g m_X10_canGo 1 0 119 [some (ev_o 10 a), some (ev_i u1), some (ev_i u2), some (ev_i u3), some (ev_i u4), some (ev_i u5), some (ev_i u6), some (ev_i u7), some (ev_i 0)] [] S Q)) ∧
        (¬ (u1 ≤ u7) → (
          (vp_in ((u6 * u1) + u7) 64) ∧ (
            ((S.1 (a + 1) ((u6 * u1) + u7).toNatClampNeg) = u4 → (
              ev_E g m_X10_canGo 1 0 119 [some (ev_o 10 a), some (ev_i u1), some (ev_i u2), some (ev_i u3), some (ev_i u4), some (ev_i u5), some (ev_i u6), some (ev_i u7), some (ev_i 0)] [] S Q)) ∧
            (¬ ((S.1 (a + 1) ((u6 * u1) + u7).toNatClampNeg) = u4) → (
              ev_E g m_X10_canGo 1 0 119 [some (ev_o 10 a), some (ev_i u1), some (ev_i u2), some (ev_i u3), some (ev_i u4), some (ev_i u5), some (ev_i u6), some (ev_i u7), some (ev_i 1)] [] S Q)))))))))))) : ev_E g m_X10_canGo 1 0 73 [some (ev_o 10 a), some (ev_i u1), some (ev_i u2), some (ev_i u3), some (ev_i u4), some (ev_i u5), some (ev_i u6), some (ev_i u7), none] [] S Q := by
  refine ev_iload (u6) dX10_canGo_73 rfl ?_
  refine ev_if_lt 116 dX10_canGo_75 (by decide) (fun c1 => ?_) (fun c1 => ?_)
  · replace hQ := hQ.1 c1
    refine ev_iconst (0) dX10_canGo_116 rfl ?_
    refine ev_istore dX10_canGo_117 (Nat.le_of_ble_eq_true rfl) (ev_hw rfl) ?_
    show ev_E g m_X10_canGo 1 0 119 [some (ev_o 10 a), some (ev_i u1), some (ev_i u2), some (ev_i u3), some (ev_i u4), some (ev_i u5), some (ev_i u6), some (ev_i u7), some (ev_i 0)] [] S Q
    exact hQ
  · replace hQ := hQ.2 c1
    refine ev_iload (u7) dX10_canGo_78 rfl ?_
    refine ev_if_lt 116 dX10_canGo_80 (by decide) (fun c2 => ?_) (fun c2 => ?_)
    · replace hQ := hQ.1 c2
      refine ev_iconst (0) dX10_canGo_116 rfl ?_
      refine ev_istore dX10_canGo_117 (Nat.le_of_ble_eq_true rfl) (ev_hw rfl) ?_
      show ev_E g m_X10_canGo 1 0 119 [some (ev_o 10 a), some (ev_i u1), some (ev_i u2), some (ev_i u3), some (ev_i u4), some (ev_i u5), some (ev_i u6), some (ev_i u7), some (ev_i 0)] [] S Q
      exact hQ
    · replace hQ := hQ.2 c2
      refine ev_iload (u6) dX10_canGo_83 rfl ?_
      refine ev_iload_n (u1) dX10_canGo_85 rfl ?_
      refine ev_icmp_ge 116 dX10_canGo_86 (by decide) (fun c3 => ?_) (fun c3 => ?_)
      · replace hQ := hQ.1 c3
        refine ev_iconst (0) dX10_canGo_116 rfl ?_
        refine ev_istore dX10_canGo_117 (Nat.le_of_ble_eq_true rfl) (ev_hw rfl) ?_
        show ev_E g m_X10_canGo 1 0 119 [some (ev_o 10 a), some (ev_i u1), some (ev_i u2), some (ev_i u3), some (ev_i u4), some (ev_i u5), some (ev_i u6), some (ev_i u7), some (ev_i 0)] [] S Q
        exact hQ
      · replace hQ := hQ.2 c3
        refine ev_iload (u7) dX10_canGo_89 rfl ?_
        refine ev_iload_n (u1) dX10_canGo_91 rfl ?_
        refine ev_icmp_ge 116 dX10_canGo_92 (by decide) (fun c4 => ?_) (fun c4 => ?_)
        · replace hQ := hQ.1 c4
          refine ev_iconst (0) dX10_canGo_116 rfl ?_
          refine ev_istore dX10_canGo_117 (Nat.le_of_ble_eq_true rfl) (ev_hw rfl) ?_
          show ev_E g m_X10_canGo 1 0 119 [some (ev_o 10 a), some (ev_i u1), some (ev_i u2), some (ev_i u3), some (ev_i u4), some (ev_i u5), some (ev_i u6), some (ev_i u7), some (ev_i 0)] [] S Q
          exact hQ
        · replace hQ := hQ.2 c4
          refine ev_aload_n (ev_o 10 a) dX10_canGo_95 rfl rfl ?_
          refine gf_10_0 dX10_canGo_96 kw_738 ?_
          refine ev_iload (u6) dX10_canGo_99 rfl ?_
          refine ev_iload_n (u1) dX10_canGo_101 rfl ?_
          refine ev_imul dX10_canGo_102 ?_
          refine ev_iload (u7) dX10_canGo_103 rfl ?_
          refine ev_iadd dX10_canGo_105 ?_
          obtain ⟨h1, hQ⟩ := hQ
          refine ev_iaload dX10_canGo_106 h1 ?_
          refine ev_iload (u4) dX10_canGo_107 rfl ?_
          refine ev_icmp_eq 116 dX10_canGo_109 (by decide) (fun c5 => ?_) (fun c5 => ?_)
          · replace hQ := hQ.1 c5
            refine ev_iconst (0) dX10_canGo_116 rfl ?_
            refine ev_istore dX10_canGo_117 (Nat.le_of_ble_eq_true rfl) (ev_hw rfl) ?_
            show ev_E g m_X10_canGo 1 0 119 [some (ev_o 10 a), some (ev_i u1), some (ev_i u2), some (ev_i u3), some (ev_i u4), some (ev_i u5), some (ev_i u6), some (ev_i u7), some (ev_i 0)] [] S Q
            exact hQ
          · replace hQ := hQ.2 c5
            refine ev_iconst (1) dX10_canGo_112 rfl ?_
            refine ev_goto 117 dX10_canGo_113 (by decide) ?_
            refine ev_istore dX10_canGo_117 (Nat.le_of_ble_eq_true rfl) (ev_hw rfl) ?_
            show ev_E g m_X10_canGo 1 0 119 [some (ev_o 10 a), some (ev_i u1), some (ev_i u2), some (ev_i u3), some (ev_i u4), some (ev_i u5), some (ev_i u6), some (ev_i u7), some (ev_i 1)] [] S Q
            exact hQ
set_option maxHeartbeats 4000000 in
set_option maxRecDepth 100000 in
theorem sg_X10_canGo_119 {g : ev_G} {S : ev_S} {Q : ev_O → ev_S → Prop} (a : Nat) (u1 : Int32) (u2 : Int32) (u3 : Int32) (u4 : Int32) (u5 : Int32) (u6 : Int32) (u7 : Int32) (u8 : Int32) (hQ : (u8 = 0 → (
    ev_E g m_X10_canGo 1 0 137 [some (ev_o 10 a), some (ev_i u1), some (ev_i u2), some (ev_i u3), some (ev_i u4), some (ev_i u5), some (ev_i u6), some (ev_i u7), some (ev_i u8)] [] S Q)) ∧
  (¬ (u8 = 0) → (
    (((u6 * u1) + u7) = u3 → (
      Q (.inl (some (ev_i 1))) S)) ∧
    (¬ (((u6 * u1) + u7) = u3) → (
      ev_E g m_X10_canGo 1 0 137 [some (ev_o 10 a), some (ev_i u1), some (ev_i u2), some (ev_i u3), some (ev_i u4), some (ev_i u5), some (ev_i u6), some (ev_i u7), some (ev_i u8)] [] S Q))))) : ev_E g m_X10_canGo 1 0 119 [some (ev_o 10 a), some (ev_i u1), some (ev_i u2), some (ev_i u3), some (ev_i u4), some (ev_i u5), some (ev_i u6), some (ev_i u7), some (ev_i u8)] [] S Q := by
  refine ev_iload (u8) dX10_canGo_119 rfl ?_
  refine ev_if_eq 137 dX10_canGo_121 (by decide) (fun c1 => ?_) (fun c1 => ?_)
  · replace hQ := hQ.1 c1
    exact hQ
  · replace hQ := hQ.2 c1
    refine ev_iload (u6) dX10_canGo_124 rfl ?_
    refine ev_iload_n (u1) dX10_canGo_126 rfl ?_
    refine ev_imul dX10_canGo_127 ?_
    refine ev_iload (u7) dX10_canGo_128 rfl ?_
    refine ev_iadd dX10_canGo_130 ?_
    refine ev_iload_n (u3) dX10_canGo_131 rfl ?_
    refine ev_icmp_ne 137 dX10_canGo_132 (by decide) (fun c2 => ?_) (fun c2 => ?_)
    · replace hQ := hQ.2 c2
      exact hQ
    · replace hQ := hQ.1 c2
      refine ev_iconst (1) dX10_canGo_135 rfl ?_
      exact ev_ireturn .boolean dX10_canGo_136 rfl rfl hQ
set_option maxHeartbeats 4000000 in
set_option maxRecDepth 100000 in
theorem sg_X10_canGo_137 {g : ev_G} {S : ev_S} {Q : ev_O → ev_S → Prop} (a : Nat) (u1 : Int32) (u2 : Int32) (u3 : Int32) (u4 : Int32) (u5 : Int32) (u6 : Int32) (u7 : Int32) (u8 : Int32) (hQ : (u8 = 0 → (
    ev_E g m_X10_canGo 1 0 35 [some (ev_o 10 a), some (ev_i u1), some (ev_i u2), some (ev_i u3), some (ev_i u4), some (ev_i u5), some (ev_i u6), some (ev_i u7), some (ev_i 0)] [] S Q)) ∧
  (¬ (u8 = 0) → (
    (vp_in ((u6 * u1) + u7) 64) ∧ (
      (0 ≤ (S.1 (a + 1) ((u6 * u1) + u7).toNatClampNeg) → (
        ev_E g m_X10_canGo 1 0 35 [some (ev_o 10 a), some (ev_i u1), some (ev_i u2), some (ev_i u3), some (ev_i u4), some (ev_i u5), some (ev_i u6), some (ev_i u7), some (ev_i 0)] [] S Q)) ∧
      (¬ (0 ≤ (S.1 (a + 1) ((u6 * u1) + u7).toNatClampNeg)) → (
        ev_E g m_X10_canGo 1 0 35 [some (ev_o 10 a), some (ev_i u1), some (ev_i u2), some (ev_i u3), some (ev_i u4), some (ev_i u5), some (ev_i u6), some (ev_i u7), some (ev_i 1)] [] S Q)))))) : ev_E g m_X10_canGo 1 0 137 [some (ev_o 10 a), some (ev_i u1), some (ev_i u2), some (ev_i u3), some (ev_i u4), some (ev_i u5), some (ev_i u6), some (ev_i u7), some (ev_i u8)] [] S Q := by
  refine ev_iload (u8) dX10_canGo_137 rfl ?_
  refine ev_if_eq 161 dX10_canGo_139 (by decide) (fun c1 => ?_) (fun c1 => ?_)
  · replace hQ := hQ.1 c1
    refine ev_iconst (0) dX10_canGo_161 rfl ?_
    refine ev_istore dX10_canGo_162 (Nat.le_of_ble_eq_true rfl) (ev_hw rfl) ?_
    show ev_E g m_X10_canGo 1 0 164 [some (ev_o 10 a), some (ev_i u1), some (ev_i u2), some (ev_i u3), some (ev_i u4), some (ev_i u5), some (ev_i u6), some (ev_i u7), some (ev_i 0)] [] S Q
    refine ev_goto 35 dX10_canGo_164 (by decide) ?_
    exact hQ
  · replace hQ := hQ.2 c1
    refine ev_aload_n (ev_o 10 a) dX10_canGo_142 rfl rfl ?_
    refine gf_10_0 dX10_canGo_143 kw_738 ?_
    refine ev_iload (u6) dX10_canGo_146 rfl ?_
    refine ev_iload_n (u1) dX10_canGo_148 rfl ?_
    refine ev_imul dX10_canGo_149 ?_
    refine ev_iload (u7) dX10_canGo_150 rfl ?_
    refine ev_iadd dX10_canGo_152 ?_
    obtain ⟨h1, hQ⟩ := hQ
    refine ev_iaload dX10_canGo_153 h1 ?_
    refine ev_if_ge 161 dX10_canGo_154 (by decide) (fun c2 => ?_) (fun c2 => ?_)
    · replace hQ := hQ.1 c2
      refine ev_iconst (0) dX10_canGo_161 rfl ?_
      refine ev_istore dX10_canGo_162 (Nat.le_of_ble_eq_true rfl) (ev_hw rfl) ?_
      show ev_E g m_X10_canGo 1 0 164 [some (ev_o 10 a), some (ev_i u1), some (ev_i u2), some (ev_i u3), some (ev_i u4), some (ev_i u5), some (ev_i u6), some (ev_i u7), some (ev_i 0)] [] S Q
      refine ev_goto 35 dX10_canGo_164 (by decide) ?_
      exact hQ
    · replace hQ := hQ.2 c2
      refine ev_iconst (1) dX10_canGo_157 rfl ?_
      refine ev_goto 162 dX10_canGo_158 (by decide) ?_
      refine ev_istore dX10_canGo_162 (Nat.le_of_ble_eq_true rfl) (ev_hw rfl) ?_
      show ev_E g m_X10_canGo 1 0 164 [some (ev_o 10 a), some (ev_i u1), some (ev_i u2), some (ev_i u3), some (ev_i u4), some (ev_i u5), some (ev_i u6), some (ev_i u7), some (ev_i 1)] [] S Q
      refine ev_goto 35 dX10_canGo_164 (by decide) ?_
      exact hQ
set_option maxHeartbeats 4000000 in
set_option maxRecDepth 100000 in
theorem sg_X11_leaves_0 {g : ev_G} {S : ev_S} {Q : ev_O → ev_S → Prop} (a : Nat) (hQ : ∀ S1 : ev_S, S1 = (ev_up S a 33 1) → (
    Q (.inl (some (ev_i 1))) S1)) : ev_Cv g m_X11_leaves 1 0 [ev_o 11 a] S Q := by
  refine ev_enter (by decide) rfl rfl (Nat.le_of_ble_eq_true rfl) ?_
  show ev_E g m_X11_leaves 1 0 0 [some (ev_o 11 a)] [] S Q
  refine ev_aload_n (ev_o 11 a) dX11_leaves_0 rfl rfl ?_
  refine ev_iconst (1) dX11_leaves_1 rfl ?_
  refine pf_11_33 dX11_leaves_2 kw_855 (by decide) ?_
  refine ev_sub hQ (fun S1 hS1 hQ => ?_)
  refine ev_E.goal (pc' := 5) (L' := [some (ev_o 11 a)]) (K' := []) (S' := S1) ?_ rfl rfl rfl hS1
  refine ev_iconst (1) dX11_leaves_5 rfl ?_
  exact ev_ireturn .boolean dX11_leaves_6 rfl rfl hQ
set_option maxHeartbeats 4000000 in
set_option maxRecDepth 100000 in
theorem sp_X11_leaves {g : ev_G} {S : ev_S} (a : Nat)  : ev_Fn g m_X11_leaves 1 [ev_o 11 a] S (some (ev_i 1)) (ev_up S a 33 1) := by
  intro Q hQ
  refine sg_X11_leaves_0 a ?_
  intro S1 hS1
  subst hS1
  exact hQ
set_option maxHeartbeats 4000000 in
set_option maxRecDepth 100000 in
theorem sg_X11_isOver_0 {g : ev_G} {S : ev_S} {Q : ev_O → ev_S → Prop} (a : Nat) (x0 : Int32) (hQ : (vp_in x0 2) ∧ (
    ev_Cv g m_X10_bishops 1 0 [ev_o 10 (a_bd (a + 1) x0), ev_i 0] S (fun o S1 => ∃ v1_ : Int32, o = .inl (some (ev_i v1_)) ∧ (
      (v1_ = 0 → (
        Q (.inl (some (ev_i 1))) S1)) ∧
      (¬ (v1_ = 0) → (
        ev_Cv g m_X10_bishops 1 0 [ev_o 10 (a_bd (a + 1) x0), ev_i 1] S1 (fun o S2 => ∃ v2_ : Int32, o = .inl (some (ev_i v2_)) ∧ (
          (v2_ = 0 → (
            Q (.inl (some (ev_i 1))) S2)) ∧
          (¬ (v2_ = 0) → (
            ((S2.1 (a_bd (a + 1) x0) 6) = (S2.1 a 1) → (
              Q (.inl (some (ev_i 1))) S2)) ∧
            (¬ ((S2.1 (a_bd (a + 1) x0) 6) = (S2.1 a 1)) → (
              Q (.inl (some (ev_i 0))) S2)))))))))))) : ev_Cv g m_X11_isOver 2 0 [ev_o 11 a, ev_i x0] S Q := by
  refine ev_enter (by decide) rfl rfl (Nat.le_of_ble_eq_true rfl) ?_
  show ev_E g m_X11_isOver 2 0 0 [some (ev_o 11 a), some (ev_i x0)] [] S Q
  refine ev_aload_n (ev_o 11 a) dX11_isOver_0 rfl rfl ?_
  refine gf_11_11 dX11_isOver_1 kw_818 ?_
  refine ev_iload_n (x0) dX11_isOver_4 rfl ?_
  obtain ⟨h1, hQ⟩ := hQ
  refine ev_aalB dX11_isOver_5 h1 ?_
  show ev_E g m_X11_isOver 2 0 6 [some (ev_o 11 a), some (ev_i x0)] [ev_o 10 (a_bd (a + 1) x0)] S Q
  refine ev_iconst (0) dX11_isOver_6 rfl ?_
  refine ev_cV mv_X10_bishops 1 0 10 [ev_i 0] [] dX11_isOver_7 kw_1039 rfl (by decide) rfl (by decide) (by decide) (Nat.le_of_ble_eq_true rfl) hQ ?_ rfl
  rintro o S1 ⟨v1_, rfl, hQ⟩
  show ev_E g m_X11_isOver 2 0 10 [some (ev_o 11 a), some (ev_i x0)] [ev_i v1_] S1 Q
  refine ev_if_eq 42 dX11_isOver_10 (by decide) (fun c1 => ?_) (fun c1 => ?_)
  · replace hQ := hQ.1 c1
    refine ev_iconst (1) dX11_isOver_42 rfl ?_
    refine ev_goto 47 dX11_isOver_43 (by decide) ?_
    exact ev_ireturn .boolean dX11_isOver_47 rfl rfl hQ
  · replace hQ := hQ.2 c1
    refine ev_aload_n (ev_o 11 a) dX11_isOver_13 rfl rfl ?_
    refine gf_11_11 dX11_isOver_14 kw_818 ?_
    refine ev_iload_n (x0) dX11_isOver_17 rfl ?_
    refine ev_aalB dX11_isOver_18 h1 ?_
    show ev_E g m_X11_isOver 2 0 19 [some (ev_o 11 a), some (ev_i x0)] [ev_o 10 (a_bd (a + 1) x0)] S1 Q
    refine ev_iconst (1) dX11_isOver_19 rfl ?_
    refine ev_cV mv_X10_bishops 1 0 10 [ev_i 1] [] dX11_isOver_20 kw_1039 rfl (by decide) rfl (by decide) (by decide) (Nat.le_of_ble_eq_true rfl) hQ ?_ rfl
    rintro o S2 ⟨v2_, rfl, hQ⟩
    show ev_E g m_X11_isOver 2 0 23 [some (ev_o 11 a), some (ev_i x0)] [ev_i v2_] S2 Q
    refine ev_if_eq 42 dX11_isOver_23 (by decide) (fun c2 => ?_) (fun c2 => ?_)
    · replace hQ := hQ.1 c2
      refine ev_iconst (1) dX11_isOver_42 rfl ?_
      refine ev_goto 47 dX11_isOver_43 (by decide) ?_
      exact ev_ireturn .boolean dX11_isOver_47 rfl rfl hQ
    · replace hQ := hQ.2 c2
      refine ev_aload_n (ev_o 11 a) dX11_isOver_26 rfl rfl ?_
      refine gf_11_11 dX11_isOver_27 kw_818 ?_
      refine ev_iload_n (x0) dX11_isOver_30 rfl ?_
      refine ev_aalB dX11_isOver_31 h1 ?_
      show ev_E g m_X11_isOver 2 0 32 [some (ev_o 11 a), some (ev_i x0)] [ev_o 10 (a_bd (a + 1) x0)] S2 Q
      refine gn_10_6 dX11_isOver_32 (List.mem_of_getElem? (i := 10) rfl) ?_
      refine ev_aload_n (ev_o 11 a) dX11_isOver_35 rfl rfl ?_
      refine gf_11_1 dX11_isOver_36 kw_799 ?_
      refine ev_icmp_ne 46 dX11_isOver_39 (by decide) (fun c3 => ?_) (fun c3 => ?_)
      · replace hQ := hQ.2 c3
        refine ev_iconst (0) dX11_isOver_46 rfl ?_
        exact ev_ireturn .boolean dX11_isOver_47 rfl rfl hQ
      · replace hQ := hQ.1 c3
        refine ev_iconst (1) dX11_isOver_42 rfl ?_
        refine ev_goto 47 dX11_isOver_43 (by decide) ?_
        exact ev_ireturn .boolean dX11_isOver_47 rfl rfl hQ
set_option maxHeartbeats 4000000 in
set_option maxRecDepth 100000 in
theorem sg_X11_isTurn_0 {g : ev_G} {S : ev_S} {Q : ev_O → ev_S → Prop} (a : Nat) (x0 : Int32) (hQ : ev_Cv g m_X11_isOver 2 0 [ev_o 11 a, ev_i x0] S (fun o S1 => ∃ v1_ : Bool, o = .inl (some (ev_i (if v1_ = true then 1 else 0))) ∧ (
    (v1_ = true → (
      Q (.inl (some (ev_i 0))) S1)) ∧
    (¬ (v1_ = true) → (
      (vp_in x0 2) ∧ (
        ((ev_rem (S1.1 (a_bd (a + 1) x0) 6) 2) = x0 → (
          Q (.inl (some (ev_i 1))) S1)) ∧
        (¬ ((ev_rem (S1.1 (a_bd (a + 1) x0) 6) 2) = x0) → (
          Q (.inl (some (ev_i 0))) S1)))))))) : ev_Cv g m_X11_isTurn 3 0 [ev_o 11 a, ev_i x0] S Q := by
  refine ev_enter (by decide) rfl rfl (Nat.le_of_ble_eq_true rfl) ?_
  show ev_E g m_X11_isTurn 3 0 0 [some (ev_o 11 a), some (ev_i x0)] [] S Q
  refine ev_aload_n (ev_o 11 a) dX11_isTurn_0 rfl rfl ?_
  refine ev_iload_n (x0) dX11_isTurn_1 rfl ?_
  refine ev_cV mv_X11_isOver 2 0 11 [ev_i x0] [] dX11_isTurn_2 kw_1035 rfl (by decide) rfl (by decide) (by decide) (Nat.le_of_ble_eq_true rfl) hQ ?_ rfl
  rintro o S1 ⟨v1_, rfl, hQ⟩
  show ev_E g m_X11_isTurn 3 0 5 [some (ev_o 11 a), some (ev_i x0)] [ev_i (if v1_ = true then 1 else 0)] S1 Q
  by_cases c1 : v1_ = true
  · rw [if_pos c1]
    replace hQ := hQ.1 c1
    refine ev_if_ne 27 dX11_isTurn_5 (by decide) (fun _ => ?_) (fun h9 => absurd h9 (by decide : ¬ ((1 : Int32) = 0)))
    refine ev_iconst (0) dX11_isTurn_27 rfl ?_
    exact ev_ireturn .boolean dX11_isTurn_28 rfl rfl hQ
  · rw [if_neg c1]
    replace hQ := hQ.2 c1
    refine ev_if_ne 27 dX11_isTurn_5 (by decide) (fun h9 => absurd (by decide : ((0 : Int32) = 0)) h9) (fun _ => ?_)
    refine ev_aload_n (ev_o 11 a) dX11_isTurn_8 rfl rfl ?_
    refine gf_11_11 dX11_isTurn_9 kw_818 ?_
    refine ev_iload_n (x0) dX11_isTurn_12 rfl ?_
    obtain ⟨h1, hQ⟩ := hQ
    refine ev_aalB dX11_isTurn_13 h1 ?_
    show ev_E g m_X11_isTurn 3 0 14 [some (ev_o 11 a), some (ev_i x0)] [ev_o 10 (a_bd (a + 1) x0)] S1 Q
    refine gn_10_6 dX11_isTurn_14 (List.mem_of_getElem? (i := 10) rfl) ?_
    refine ev_iconst (2) dX11_isTurn_17 rfl ?_
    refine ev_irem dX11_isTurn_18 (by decide) ?_
    refine ev_iload_n (x0) dX11_isTurn_19 rfl ?_
    refine ev_icmp_ne 27 dX11_isTurn_20 (by decide) (fun c2 => ?_) (fun c2 => ?_)
    · replace hQ := hQ.2 c2
      refine ev_iconst (0) dX11_isTurn_27 rfl ?_
      exact ev_ireturn .boolean dX11_isTurn_28 rfl rfl hQ
    · replace hQ := hQ.1 c2
      refine ev_iconst (1) dX11_isTurn_23 rfl ?_
      refine ev_goto 28 dX11_isTurn_24 (by decide) ?_
      exact ev_ireturn .boolean dX11_isTurn_28 rfl rfl hQ
set_option maxHeartbeats 4000000 in
set_option maxRecDepth 100000 in
theorem sg_X11_applies_0 {g : ev_G} {S : ev_S} {Q : ev_O → ev_S → Prop} (a : Nat) (x0 : Int32) (x1 : Int32) (x2 : Int32) (hQ : (vp_in x0 2) ∧ (
    ∀ S1 : ev_S, S1 = (ev_up S (a_bd (a + 1) x0) 6 ((S.1 (a_bd (a + 1) x0) 6) + 1)) → (
      (vp_in ((S.1 (a_bd (a + 1) x0) 6) + 1) 61) ∧ (
        ∀ S2 : ev_S, S2 = (ev_up S1 ((a_bd (a + 1) x0) + 2) ((S.1 (a_bd (a + 1) x0) 6) + 1).toNatClampNeg x1) → (
          (vp_in (S2.1 (a_bd (a + 1) x0) 6) 61) ∧ (
            ∀ S3 : ev_S, S3 = (ev_up S2 ((a_bd (a + 1) x0) + 3) (S2.1 (a_bd (a + 1) x0) 6).toNatClampNeg x2) → (
              (vp_in x2 64) ∧ (
                ((S3.1 ((a_bd (a + 1) x0) + 1) x2.toNatClampNeg) < 0 → (
                  (vp_in (S3.1 (a_bd (a + 1) x0) 6) 61) ∧ (
                    ∀ S4 : ev_S, S4 = (ev_up S3 ((a_bd (a + 1) x0) + 6) (S3.1 (a_bd (a + 1) x0) 6).toNatClampNeg 0) → (
                      ev_E g m_X11_applies 1 0 69 [some (ev_o 11 a), some (ev_i x0), some (ev_i x1), some (ev_i x2), some (ev_o 10 (a_bd (a + 1) x0))] [] S4 Q)))) ∧
                (¬ ((S3.1 ((a_bd (a + 1) x0) + 1) x2.toNatClampNeg) < 0) → (
                  (vp_in (S3.1 (a_bd (a + 1) x0) 6) 61) ∧ (
                    ∀ S5 : ev_S, S5 = (ev_up S3 ((a_bd (a + 1) x0) + 6) (S3.1 (a_bd (a + 1) x0) 6).toNatClampNeg 1) → (
                      ev_E g m_X11_applies 1 0 69 [some (ev_o 11 a), some (ev_i x0), some (ev_i x1), some (ev_i x2), some (ev_o 10 (a_bd (a + 1) x0))] [] S5 Q)))))))))))) : ev_Cv g m_X11_applies 1 0 [ev_o 11 a, ev_i x0, ev_i x1, ev_i x2] S Q := by
  refine ev_enter (by decide) rfl rfl (Nat.le_of_ble_eq_true rfl) ?_
  show ev_E g m_X11_applies 1 0 0 [some (ev_o 11 a), some (ev_i x0), some (ev_i x1), some (ev_i x2), none] [] S Q
  refine ev_aload_n (ev_o 11 a) dX11_applies_0 rfl rfl ?_
  refine gf_11_11 dX11_applies_1 kw_818 ?_
  refine ev_iload_n (x0) dX11_applies_4 rfl ?_
  obtain ⟨h1, hQ⟩ := hQ
  refine ev_aalB dX11_applies_5 h1 ?_
  show ev_E g m_X11_applies 1 0 6 [some (ev_o 11 a), some (ev_i x0), some (ev_i x1), some (ev_i x2), none] [ev_o 10 (a_bd (a + 1) x0)] S Q
  refine ev_astore dX11_applies_6 rfl (Nat.le_of_ble_eq_true rfl) (ev_hw rfl) ?_
  show ev_E g m_X11_applies 1 0 8 [some (ev_o 11 a), some (ev_i x0), some (ev_i x1), some (ev_i x2), some (ev_o 10 (a_bd (a + 1) x0))] [] S Q
  refine ev_aload (ev_o 10 (a_bd (a + 1) x0)) dX11_applies_8 rfl rfl ?_
  refine ev_dup dX11_applies_10 rfl ?_
  refine gn_10_6 dX11_applies_11 (List.mem_of_getElem? (i := 10) rfl) ?_
  refine ev_iconst (1) dX11_applies_14 rfl ?_
  refine ev_iadd dX11_applies_15 ?_
  refine pn_10_6 dX11_applies_16 (List.mem_of_getElem? (i := 10) rfl) ?_
  refine ev_sub hQ (fun S1 hS1 hQ => ?_)
  refine ev_E.goal (pc' := 19) (L' := [some (ev_o 11 a), some (ev_i x0), some (ev_i x1), some (ev_i x2), some (ev_o 10 (a_bd (a + 1) x0))]) (K' := []) (S' := S1) ?_ rfl rfl rfl hS1
  refine ev_aload (ev_o 10 (a_bd (a + 1) x0)) dX11_applies_19 rfl rfl ?_
  refine gn_10_1 dX11_applies_21 (List.mem_of_getElem? (i := 2) rfl) ?_
  refine ev_aload (ev_o 10 (a_bd (a + 1) x0)) dX11_applies_24 rfl rfl ?_
  refine gn_10_6 dX11_applies_26 (List.mem_of_getElem? (i := 10) rfl) ?_
  refine ev_ke (j_rs hS1) ?_
  refine ev_iload_n (x1) dX11_applies_29 rfl ?_
  obtain ⟨h2, hQ⟩ := hQ
  refine ev_iastore dX11_applies_30 h2 ?_
  refine ev_sub hQ (fun S2 hS2 hQ => ?_)
  refine ev_E.goal (pc' := 31) (L' := [some (ev_o 11 a), some (ev_i x0), some (ev_i x1), some (ev_i x2), some (ev_o 10 (a_bd (a + 1) x0))]) (K' := []) (S' := S2) ?_ rfl rfl rfl hS2
  refine ev_aload (ev_o 10 (a_bd (a + 1) x0)) dX11_applies_31 rfl rfl ?_
  refine gn_10_2 dX11_applies_33 (List.mem_of_getElem? (i := 4) rfl) ?_
  refine ev_aload (ev_o 10 (a_bd (a + 1) x0)) dX11_applies_36 rfl rfl ?_
  refine gn_10_6 dX11_applies_38 (List.mem_of_getElem? (i := 10) rfl) ?_
  refine ev_iload_n (x2) dX11_applies_41 rfl ?_
  obtain ⟨h3, hQ⟩ := hQ
  refine ev_iastore dX11_applies_42 h3 ?_
  refine ev_sub hQ (fun S3 hS3 hQ => ?_)
  refine ev_E.goal (pc' := 43) (L' := [some (ev_o 11 a), some (ev_i x0), some (ev_i x1), some (ev_i x2), some (ev_o 10 (a_bd (a + 1) x0))]) (K' := []) (S' := S3) ?_ rfl rfl rfl hS3
  refine ev_aload (ev_o 10 (a_bd (a + 1) x0)) dX11_applies_43 rfl rfl ?_
  refine gn_10_5 dX11_applies_45 (List.mem_of_getElem? (i := 9) rfl) ?_
  refine ev_aload (ev_o 10 (a_bd (a + 1) x0)) dX11_applies_48 rfl rfl ?_
  refine gn_10_6 dX11_applies_50 (List.mem_of_getElem? (i := 10) rfl) ?_
  refine ev_aload (ev_o 10 (a_bd (a + 1) x0)) dX11_applies_53 rfl rfl ?_
  refine gn_10_0 dX11_applies_55 (List.mem_of_getElem? (i := 1) rfl) ?_
  refine ev_iload_n (x2) dX11_applies_58 rfl ?_
  obtain ⟨h4, hQ⟩ := hQ
  refine ev_iaload dX11_applies_59 h4 ?_
  refine ev_if_lt 67 dX11_applies_60 (by decide) (fun c1 => ?_) (fun c1 => ?_)
  · replace hQ := hQ.1 c1
    refine ev_iconst (0) dX11_applies_67 rfl ?_
    obtain ⟨h5, hQ⟩ := hQ
    refine ev_bastore (n := 61) (by decide) dX11_applies_68 h5 rfl ?_
    refine ev_sub hQ (fun S4 hS4 hQ => ?_)
    refine ev_E.goal (pc' := 69) (L' := [some (ev_o 11 a), some (ev_i x0), some (ev_i x1), some (ev_i x2), some (ev_o 10 (a_bd (a + 1) x0))]) (K' := []) (S' := S4) ?_ rfl rfl rfl hS4
    exact hQ
  · replace hQ := hQ.2 c1
    refine ev_iconst (1) dX11_applies_63 rfl ?_
    refine ev_goto 68 dX11_applies_64 (by decide) ?_
    obtain ⟨h6, hQ⟩ := hQ
    refine ev_bastore (n := 61) (by decide) dX11_applies_68 h6 rfl ?_
    refine ev_sub hQ (fun S5 hS5 hQ => ?_)
    refine ev_E.goal (pc' := 69) (L' := [some (ev_o 11 a), some (ev_i x0), some (ev_i x1), some (ev_i x2), some (ev_o 10 (a_bd (a + 1) x0))]) (K' := []) (S' := S5) ?_ rfl rfl rfl hS5
    exact hQ
set_option maxHeartbeats 4000000 in
set_option maxRecDepth 100000 in
theorem sg_X11_applies_69 {g : ev_G} {S : ev_S} {Q : ev_O → ev_S → Prop} (a : Nat) (u1 : Int32) (u2 : Int32) (u3 : Int32) (w4 : Nat) (hQ : (vp_in u2 64) ∧ (
    (vp_in u3 64) ∧ (
      ∀ S1 : ev_S, S1 = (ev_up S (w4 + 1) u3.toNatClampNeg (S.1 (w4 + 1) u2.toNatClampNeg)) → (
        ∀ S2 : ev_S, S2 = (ev_up S1 (w4 + 1) u2.toNatClampNeg (-1)) → (
          ((ev_rem (S.1 w4 6) 2) = u1 → (
            ((S.1 w4 7) < 0 → (
              Q (.inl none) S2)) ∧
            (¬ ((S.1 w4 7) < 0) → (
              ∀ S3 : ev_S, S3 = (ev_up S2 w4 8 (ev_max (S.1 w4 8) ((S2.1 a 2) - (S.1 w4 7)))) → (
                ∀ S4 : ev_S, S4 = (ev_up S3 w4 9 ((S.1 w4 9) + ((S3.1 a 2) - (S.1 w4 7)))) → (
                  ∀ S5 : ev_S, S5 = (ev_up S4 w4 10 ((S.1 w4 10) + 1)) → (
                    Q (.inl none) S5))))))) ∧
          (¬ ((ev_rem (S.1 w4 6) 2) = u1) → (
            ∀ S6 : ev_S, S6 = (ev_up S2 w4 7 (S2.1 a 2)) → (
              Q (.inl none) S6)))))))) : ev_E g m_X11_applies 1 0 69 [some (ev_o 11 a), some (ev_i u1), some (ev_i u2), some (ev_i u3), some (ev_o 10 w4)] [] S Q := by
  refine ev_aload (ev_o 10 w4) dX11_applies_69 rfl rfl ?_
  refine gn_10_0 dX11_applies_71 (List.mem_of_getElem? (i := 1) rfl) ?_
  refine ev_iload_n (u3) dX11_applies_74 rfl ?_
  refine ev_aload (ev_o 10 w4) dX11_applies_75 rfl rfl ?_
  refine gn_10_0 dX11_applies_77 (List.mem_of_getElem? (i := 1) rfl) ?_
  refine ev_iload_n (u2) dX11_applies_80 rfl ?_
  obtain ⟨h1, hQ⟩ := hQ
  refine ev_iaload dX11_applies_81 h1 ?_
  obtain ⟨h2, hQ⟩ := hQ
  refine ev_iastore dX11_applies_82 h2 ?_
  refine ev_sub hQ (fun S1 hS1 hQ => ?_)
  refine ev_E.goal (pc' := 83) (L' := [some (ev_o 11 a), some (ev_i u1), some (ev_i u2), some (ev_i u3), some (ev_o 10 w4)]) (K' := []) (S' := S1) ?_ rfl rfl rfl hS1
  refine ev_aload (ev_o 10 w4) dX11_applies_83 rfl rfl ?_
  refine gn_10_0 dX11_applies_85 (List.mem_of_getElem? (i := 1) rfl) ?_
  refine ev_iload_n (u2) dX11_applies_88 rfl ?_
  refine ev_iconst (-1) dX11_applies_89 rfl ?_
  refine ev_iastore dX11_applies_90 h1 ?_
  refine ev_sub hQ (fun S2 hS2 hQ => ?_)
  refine ev_E.goal (pc' := 91) (L' := [some (ev_o 11 a), some (ev_i u1), some (ev_i u2), some (ev_i u3), some (ev_o 10 w4)]) (K' := []) (S' := S2) ?_ rfl rfl rfl hS2
  refine ev_aload (ev_o 10 w4) dX11_applies_91 rfl rfl ?_
  refine gn_10_6 dX11_applies_93 (List.mem_of_getElem? (i := 10) rfl) ?_
  refine ev_ke ((j_rk hS2 (Or.inl (by omega))).trans (j_rk hS1 (Or.inl (by omega)))) ?_
  refine ev_iconst (2) dX11_applies_96 rfl ?_
  refine ev_irem dX11_applies_97 (by decide) ?_
  refine ev_iload_n (u1) dX11_applies_98 rfl ?_
  refine ev_icmp_eq 114 dX11_applies_99 (by decide) (fun c1 => ?_) (fun c1 => ?_)
  · replace hQ := hQ.1 c1
    refine ev_aload (ev_o 10 w4) dX11_applies_114 rfl rfl ?_
    refine gn_10_7 dX11_applies_116 (List.mem_of_getElem? (i := 12) rfl) ?_
    refine ev_ke ((j_rk hS2 (Or.inl (by omega))).trans (j_rk hS1 (Or.inl (by omega)))) ?_
    refine ev_if_lt 176 dX11_applies_119 (by decide) (fun c2 => ?_) (fun c2 => ?_)
    · replace hQ := hQ.1 c2
      exact ev_return dX11_applies_176 rfl hQ
    · replace hQ := hQ.2 c2
      refine ev_aload (ev_o 10 w4) dX11_applies_122 rfl rfl ?_
      refine ev_aload (ev_o 10 w4) dX11_applies_124 rfl rfl ?_
      refine gn_10_8 dX11_applies_126 (List.mem_of_getElem? (i := 13) rfl) ?_
      refine ev_ke ((j_rk hS2 (Or.inl (by omega))).trans (j_rk hS1 (Or.inl (by omega)))) ?_
      refine ev_aload_n (ev_o 11 a) dX11_applies_129 rfl rfl ?_
      refine gf_11_2 dX11_applies_130 kw_801 ?_
      refine ev_aload (ev_o 10 w4) dX11_applies_133 rfl rfl ?_
      refine gn_10_7 dX11_applies_135 (List.mem_of_getElem? (i := 12) rfl) ?_
      refine ev_ke ((j_rk hS2 (Or.inl (by omega))).trans (j_rk hS1 (Or.inl (by omega)))) ?_
      refine ev_isub dX11_applies_138 ?_
      refine ev_mathMax dX11_applies_139 kw_1388 kw_1389 kw_31 kw_1390 (Nat.le_of_ble_eq_true rfl) ?_
      refine pn_10_8 dX11_applies_142 (List.mem_of_getElem? (i := 13) rfl) ?_
      refine ev_sub hQ (fun S3 hS3 hQ => ?_)
      refine ev_E.goal (pc' := 145) (L' := [some (ev_o 11 a), some (ev_i u1), some (ev_i u2), some (ev_i u3), some (ev_o 10 w4)]) (K' := []) (S' := S3) ?_ rfl rfl rfl hS3
      refine ev_aload (ev_o 10 w4) dX11_applies_145 rfl rfl ?_
      refine ev_dup dX11_applies_147 rfl ?_
      refine gn_10_9 dX11_applies_148 (List.mem_of_getElem? (i := 15) rfl) ?_
      refine ev_ke (((j_rk hS3 (Or.inr (by decide))).trans (j_rk hS2 (Or.inl (by omega)))).trans (j_rk hS1 (Or.inl (by omega)))) ?_
      refine ev_aload_n (ev_o 11 a) dX11_applies_151 rfl rfl ?_
      refine gf_11_2 dX11_applies_152 kw_801 ?_
      refine ev_aload (ev_o 10 w4) dX11_applies_155 rfl rfl ?_
      refine gn_10_7 dX11_applies_157 (List.mem_of_getElem? (i := 12) rfl) ?_
      refine ev_ke (((j_rk hS3 (Or.inr (by decide))).trans (j_rk hS2 (Or.inl (by omega)))).trans (j_rk hS1 (Or.inl (by omega)))) ?_
      refine ev_isub dX11_applies_160 ?_
      refine ev_iadd dX11_applies_161 ?_
      refine pn_10_9 dX11_applies_162 (List.mem_of_getElem? (i := 15) rfl) ?_
      refine ev_sub hQ (fun S4 hS4 hQ => ?_)
      refine ev_E.goal (pc' := 165) (L' := [some (ev_o 11 a), some (ev_i u1), some (ev_i u2), some (ev_i u3), some (ev_o 10 w4)]) (K' := []) (S' := S4) ?_ rfl rfl rfl hS4
      refine ev_aload (ev_o 10 w4) dX11_applies_165 rfl rfl ?_
      refine ev_dup dX11_applies_167 rfl ?_
      refine gn_10_10 dX11_applies_168 (List.mem_of_getElem? (i := 17) rfl) ?_
      refine ev_ke ((((j_rk hS4 (Or.inr (by decide))).trans (j_rk hS3 (Or.inr (by decide)))).trans (j_rk hS2 (Or.inl (by omega)))).trans (j_rk hS1 (Or.inl (by omega)))) ?_
      refine ev_iconst (1) dX11_applies_171 rfl ?_
      refine ev_iadd dX11_applies_172 ?_
      refine pn_10_10 dX11_applies_173 (List.mem_of_getElem? (i := 17) rfl) ?_
      refine ev_sub hQ (fun S5 hS5 hQ => ?_)
      refine ev_E.goal (pc' := 176) (L' := [some (ev_o 11 a), some (ev_i u1), some (ev_i u2), some (ev_i u3), some (ev_o 10 w4)]) (K' := []) (S' := S5) ?_ rfl rfl rfl hS5
      exact ev_return dX11_applies_176 rfl hQ
  · replace hQ := hQ.2 c1
    refine ev_aload (ev_o 10 w4) dX11_applies_102 rfl rfl ?_
    refine ev_aload_n (ev_o 11 a) dX11_applies_104 rfl rfl ?_
    refine gf_11_2 dX11_applies_105 kw_801 ?_
    refine pn_10_7 dX11_applies_108 (List.mem_of_getElem? (i := 12) rfl) ?_
    refine ev_sub hQ (fun S6 hS6 hQ => ?_)
    refine ev_E.goal (pc' := 111) (L' := [some (ev_o 11 a), some (ev_i u1), some (ev_i u2), some (ev_i u3), some (ev_o 10 w4)]) (K' := []) (S' := S6) ?_ rfl rfl rfl hS6
    refine ev_goto 176 dX11_applies_111 (by decide) ?_
    exact ev_return dX11_applies_176 rfl hQ
set_option maxHeartbeats 4000000 in
set_option maxRecDepth 100000 in
theorem sg_X11_goesOn_0 {g : ev_G} {S : ev_S} {Q : ev_O → ev_S → Prop} (a : Nat) (x0 : Int32) (hQ : (vp_in x0 2) ∧ (
    ev_E g m_X11_goesOn 3 0 7 [some (ev_o 11 a), some (ev_i x0), some (ev_o 10 (a_bd (a + 1) x0)), none, none, none] [] S Q)) : ev_Cv g m_X11_goesOn 3 0 [ev_o 11 a, ev_i x0] S Q := by
  refine ev_enter (by decide) rfl rfl (Nat.le_of_ble_eq_true rfl) ?_
  show ev_E g m_X11_goesOn 3 0 0 [some (ev_o 11 a), some (ev_i x0), none, none, none, none] [] S Q
  refine ev_aload_n (ev_o 11 a) dX11_goesOn_0 rfl rfl ?_
  refine gf_11_11 dX11_goesOn_1 kw_818 ?_
  refine ev_iload_n (x0) dX11_goesOn_4 rfl ?_
  obtain ⟨h1, hQ⟩ := hQ
  refine ev_aalB dX11_goesOn_5 h1 ?_
  show ev_E g m_X11_goesOn 3 0 6 [some (ev_o 11 a), some (ev_i x0), none, none, none, none] [ev_o 10 (a_bd (a + 1) x0)] S Q
  refine ev_astore_n dX11_goesOn_6 rfl (Nat.le_of_ble_eq_true rfl) (ev_hw rfl) ?_
  show ev_E g m_X11_goesOn 3 0 7 [some (ev_o 11 a), some (ev_i x0), some (ev_o 10 (a_bd (a + 1) x0)), none, none, none] [] S Q
  exact hQ
set_option maxHeartbeats 4000000 in
set_option maxRecDepth 100000 in
theorem sg_X11_goesOn_7 {g : ev_G} {S : ev_S} {Q : ev_O → ev_S → Prop} (a : Nat) (u1 : Int32) (w2 : Nat) (hQ : ev_Cv g m_X11_isOver 2 0 [ev_o 11 a, ev_i u1] S (fun o S1 => ∃ v1_ : Bool, o = .inl (some (ev_i (if v1_ = true then 1 else 0))) ∧ (
    (v1_ = true → (
      Q (.inl none) S1)) ∧
    (¬ (v1_ = true) → (
      ((ev_rem ((S1.1 w2 6) + 1) 2) = u1 → (
        (vp_in ((S1.1 w2 6) + 1) 61) ∧ (
          ((S1.1 (w2 + 4) ((S1.1 w2 6) + 1).toNatClampNeg) < 0 → (
            (vp_in ((S1.1 w2 6) + 1) 64) ∧ (
              ((S1.1 (a + 31) ((S1.1 w2 6) + 1).toNatClampNeg) = 0 → (
                Q (.inl none) S1)) ∧
              (¬ ((S1.1 (a + 31) ((S1.1 w2 6) + 1).toNatClampNeg) = 0) → (
                (vp_in (((S1.1 w2 6) + 1) - 1) 61) ∧ (
                  ((S1.1 (w2 + 2) (((S1.1 w2 6) + 1) - 1).toNatClampNeg) = (S1.1 (a + 32) ((S1.1 w2 6) + 1).toNatClampNeg) → (
                    ((S1.1 (w2 + 3) (((S1.1 w2 6) + 1) - 1).toNatClampNeg) = (S1.1 (a + 33) ((S1.1 w2 6) + 1).toNatClampNeg) → (
                      ∀ S2 : ev_S, S2 = (ev_up S1 w2 11 ((S1.1 w2 11) + 0)) → (
                        ev_Cv g m_X11_applies 1 0 [ev_o 11 a, ev_i u1, ev_i (S2.1 (a + 34) ((S1.1 w2 6) + 1).toNatClampNeg), ev_i (S2.1 (a + 35) ((S1.1 w2 6) + 1).toNatClampNeg)] S2 (fun o S3 => o = .inl none ∧ (
                          ev_E g m_X11_goesOn 3 0 7 [some (ev_o 11 a), some (ev_i u1), some (ev_o 10 w2), none, none, none] [] S3 Q))))) ∧
                    (¬ ((S1.1 (w2 + 3) (((S1.1 w2 6) + 1) - 1).toNatClampNeg) = (S1.1 (a + 33) ((S1.1 w2 6) + 1).toNatClampNeg)) → (
                      Q (.inl none) S1)))) ∧
                  (¬ ((S1.1 (w2 + 2) (((S1.1 w2 6) + 1) - 1).toNatClampNeg) = (S1.1 (a + 32) ((S1.1 w2 6) + 1).toNatClampNeg)) → (
                    Q (.inl none) S1)))))))) ∧
          (¬ ((S1.1 (w2 + 4) ((S1.1 w2 6) + 1).toNatClampNeg) < 0) → (
            ∀ S4 : ev_S, S4 = (ev_up S1 (w2 + 4) ((S1.1 w2 6) + 1).toNatClampNeg (-1)) → (
              ev_Cv g m_X11_applies 1 0 [ev_o 11 a, ev_i u1, ev_i (S1.1 (w2 + 4) ((S1.1 w2 6) + 1).toNatClampNeg), ev_i (S1.1 (w2 + 5) ((S1.1 w2 6) + 1).toNatClampNeg)] S4 (fun o S5 => o = .inl none ∧ (
                ev_E g m_X11_goesOn 3 0 7 [some (ev_o 11 a), some (ev_i u1), some (ev_o 10 w2), none, none, none] [] S5 Q)))))))) ∧
      (¬ ((ev_rem ((S1.1 w2 6) + 1) 2) = u1) → (
        (vp_in ((S1.1 w2 6) + 1) 61) ∧ (
          ((S1.1 (w2 + 4) ((S1.1 w2 6) + 1).toNatClampNeg) < 0 → (
            (vp_in ((S1.1 w2 6) + 1) 64) ∧ (
              ((S1.1 (a + 30) ((S1.1 w2 6) + 1).toNatClampNeg) = 0 → (
                Q (.inl none) S1)) ∧
              (¬ ((S1.1 (a + 30) ((S1.1 w2 6) + 1).toNatClampNeg) = 0) → (
                (vp_in (((S1.1 w2 6) + 1) - 1) 61) ∧ (
                  ((S1.1 (w2 + 2) (((S1.1 w2 6) + 1) - 1).toNatClampNeg) = (S1.1 (a + 32) ((S1.1 w2 6) + 1).toNatClampNeg) → (
                    ((S1.1 (w2 + 3) (((S1.1 w2 6) + 1) - 1).toNatClampNeg) = (S1.1 (a + 33) ((S1.1 w2 6) + 1).toNatClampNeg) → (
                      ∀ S6 : ev_S, S6 = (ev_up S1 w2 11 ((S1.1 w2 11) + 1)) → (
                        ev_Cv g m_X11_applies 1 0 [ev_o 11 a, ev_i u1, ev_i (S6.1 (a + 34) ((S1.1 w2 6) + 1).toNatClampNeg), ev_i (S6.1 (a + 35) ((S1.1 w2 6) + 1).toNatClampNeg)] S6 (fun o S7 => o = .inl none ∧ (
                          ev_E g m_X11_goesOn 3 0 7 [some (ev_o 11 a), some (ev_i u1), some (ev_o 10 w2), none, none, none] [] S7 Q))))) ∧
                    (¬ ((S1.1 (w2 + 3) (((S1.1 w2 6) + 1) - 1).toNatClampNeg) = (S1.1 (a + 33) ((S1.1 w2 6) + 1).toNatClampNeg)) → (
                      Q (.inl none) S1)))) ∧
                  (¬ ((S1.1 (w2 + 2) (((S1.1 w2 6) + 1) - 1).toNatClampNeg) = (S1.1 (a + 32) ((S1.1 w2 6) + 1).toNatClampNeg)) → (
                    Q (.inl none) S1)))))))) ∧
          (¬ ((S1.1 (w2 + 4) ((S1.1 w2 6) + 1).toNatClampNeg) < 0) → (
            ∀ S8 : ev_S, S8 = (ev_up S1 (w2 + 4) ((S1.1 w2 6) + 1).toNatClampNeg (-1)) → (
              ev_Cv g m_X11_applies 1 0 [ev_o 11 a, ev_i u1, ev_i (S1.1 (w2 + 4) ((S1.1 w2 6) + 1).toNatClampNeg), ev_i (S1.1 (w2 + 5) ((S1.1 w2 6) + 1).toNatClampNeg)] S8 (fun o S9 => o = .inl none ∧ (
                ev_E g m_X11_goesOn 3 0 7 [some (ev_o 11 a), some (ev_i u1), some (ev_o 10 w2), none, none, none] [] S9 Q))))))))))))) : ev_E g m_X11_goesOn 3 0 7 [some (ev_o 11 a), some (ev_i u1), some (ev_o 10 w2), none, none, none] [] S Q := by
  refine ev_aload_n (ev_o 11 a) dX11_goesOn_7 rfl rfl ?_
  refine ev_iload_n (u1) dX11_goesOn_8 rfl ?_
  refine ev_cV mv_X11_isOver 2 0 11 [ev_i u1] [] dX11_goesOn_9 kw_1035 rfl (by decide) rfl (by decide) (by decide) (Nat.le_of_ble_eq_true rfl) hQ ?_ rfl
  rintro o S1 ⟨v1_, rfl, hQ⟩
  show ev_E g m_X11_goesOn 3 0 12 [some (ev_o 11 a), some (ev_i u1), some (ev_o 10 w2), none, none, none] [ev_i (if v1_ = true then 1 else 0)] S1 Q
  by_cases c1 : v1_ = true
  · rw [if_pos c1]
    replace hQ := hQ.1 c1
    refine ev_if_ne 179 dX11_goesOn_12 (by decide) (fun _ => ?_) (fun h9 => absurd h9 (by decide : ¬ ((1 : Int32) = 0)))
    exact ev_return dX11_goesOn_179 rfl hQ
  · rw [if_neg c1]
    replace hQ := hQ.2 c1
    refine ev_if_ne 179 dX11_goesOn_12 (by decide) (fun h9 => absurd (by decide : ((0 : Int32) = 0)) h9) (fun _ => ?_)
    refine ev_aload_n (ev_o 10 w2) dX11_goesOn_15 rfl rfl ?_
    refine gn_10_6 dX11_goesOn_16 (List.mem_of_getElem? (i := 10) rfl) ?_
    refine ev_iconst (1) dX11_goesOn_19 rfl ?_
    refine ev_iadd dX11_goesOn_20 ?_
    refine ev_istore_n dX11_goesOn_21 (Nat.le_of_ble_eq_true rfl) (ev_hw rfl) ?_
    show ev_E g m_X11_goesOn 3 0 22 [some (ev_o 11 a), some (ev_i u1), some (ev_o 10 w2), some (ev_i ((S1.1 w2 6) + 1)), none, none] [] S1 Q
    refine ev_iload_n (((S1.1 w2 6) + 1)) dX11_goesOn_22 rfl ?_
    refine ev_iconst (2) dX11_goesOn_23 rfl ?_
    refine ev_irem dX11_goesOn_24 (by decide) ?_
    refine ev_iload_n (u1) dX11_goesOn_25 rfl ?_
    refine ev_icmp_eq 33 dX11_goesOn_26 (by decide) (fun c2 => ?_) (fun c2 => ?_)
    · replace hQ := hQ.1 c2
      refine ev_iconst (0) dX11_goesOn_33 rfl ?_
      refine ev_istore dX11_goesOn_34 (Nat.le_of_ble_eq_true rfl) (ev_hw rfl) ?_
      show ev_E g m_X11_goesOn 3 0 36 [some (ev_o 11 a), some (ev_i u1), some (ev_o 10 w2), some (ev_i ((S1.1 w2 6) + 1)), some (ev_i 0), none] [] S1 Q
      refine ev_aload_n (ev_o 10 w2) dX11_goesOn_36 rfl rfl ?_
      refine gn_10_3 dX11_goesOn_37 (List.mem_of_getElem? (i := 7) rfl) ?_
      refine ev_iload_n (((S1.1 w2 6) + 1)) dX11_goesOn_40 rfl ?_
      obtain ⟨h1, hQ⟩ := hQ
      refine ev_iaload dX11_goesOn_41 h1 ?_
      refine ev_if_lt 76 dX11_goesOn_42 (by decide) (fun c3 => ?_) (fun c3 => ?_)
      · replace hQ := hQ.1 c3
        refine ev_iload (0) dX11_goesOn_76 rfl ?_
        refine ev_if_eq 93 dX11_goesOn_78 (by decide) (fun _ => ?_) (fun h9 => absurd (by decide : ((0 : Int32) = 0)) h9)
        refine ev_aload_n (ev_o 11 a) dX11_goesOn_93 rfl rfl ?_
        refine gf_11_27 dX11_goesOn_94 kw_845 ?_
        refine ev_iload_n (((S1.1 w2 6) + 1)) dX11_goesOn_97 rfl ?_
        obtain ⟨h2, hQ⟩ := hQ
        refine ev_baload (n := 64) (by decide) dX11_goesOn_98 h2 ?_
        refine ev_if_eq 175 dX11_goesOn_99 (by decide) (fun c4 => ?_) (fun c4 => ?_)
        · replace hQ := hQ.1 c4
          exact ev_return dX11_goesOn_175 rfl hQ
        · replace hQ := hQ.2 c4
          refine ev_aload_n (ev_o 10 w2) dX11_goesOn_102 rfl rfl ?_
          refine gn_10_1 dX11_goesOn_103 (List.mem_of_getElem? (i := 2) rfl) ?_
          refine ev_iload_n (((S1.1 w2 6) + 1)) dX11_goesOn_106 rfl ?_
          refine ev_iconst (1) dX11_goesOn_107 rfl ?_
          refine ev_isub dX11_goesOn_108 ?_
          obtain ⟨h3, hQ⟩ := hQ
          refine ev_iaload dX11_goesOn_109 h3 ?_
          refine ev_aload_n (ev_o 11 a) dX11_goesOn_110 rfl rfl ?_
          refine gf_11_28 dX11_goesOn_111 kw_846 ?_
          refine ev_iload_n (((S1.1 w2 6) + 1)) dX11_goesOn_114 rfl ?_
          refine ev_iaload dX11_goesOn_115 h2 ?_
          refine ev_icmp_ne 175 dX11_goesOn_116 (by decide) (fun c5 => ?_) (fun c5 => ?_)
          · replace hQ := hQ.2 c5
            exact ev_return dX11_goesOn_175 rfl hQ
          · replace hQ := hQ.1 c5
            refine ev_aload_n (ev_o 10 w2) dX11_goesOn_119 rfl rfl ?_
            refine gn_10_2 dX11_goesOn_120 (List.mem_of_getElem? (i := 4) rfl) ?_
            refine ev_iload_n (((S1.1 w2 6) + 1)) dX11_goesOn_123 rfl ?_
            refine ev_iconst (1) dX11_goesOn_124 rfl ?_
            refine ev_isub dX11_goesOn_125 ?_
            refine ev_iaload dX11_goesOn_126 h3 ?_
            refine ev_aload_n (ev_o 11 a) dX11_goesOn_127 rfl rfl ?_
            refine gf_11_29 dX11_goesOn_128 kw_848 ?_
            refine ev_iload_n (((S1.1 w2 6) + 1)) dX11_goesOn_131 rfl ?_
            refine ev_iaload dX11_goesOn_132 h2 ?_
            refine ev_icmp_ne 175 dX11_goesOn_133 (by decide) (fun c6 => ?_) (fun c6 => ?_)
            · replace hQ := hQ.2 c6
              exact ev_return dX11_goesOn_175 rfl hQ
            · replace hQ := hQ.1 c6
              refine ev_aload_n (ev_o 10 w2) dX11_goesOn_136 rfl rfl ?_
              refine ev_dup dX11_goesOn_137 rfl ?_
              refine gn_10_11 dX11_goesOn_138 (List.mem_of_getElem? (i := 20) rfl) ?_
              refine ev_iload (0) dX11_goesOn_141 rfl ?_
              refine ev_if_eq 150 dX11_goesOn_143 (by decide) (fun _ => ?_) (fun h9 => absurd (by decide : ((0 : Int32) = 0)) h9)
              refine ev_iconst (0) dX11_goesOn_150 rfl ?_
              refine ev_iadd dX11_goesOn_151 ?_
              refine pn_10_11 dX11_goesOn_152 (List.mem_of_getElem? (i := 20) rfl) ?_
              refine ev_sub hQ (fun S2 hS2 hQ => ?_)
              refine ev_E.goal (pc' := 155) (L' := [some (ev_o 11 a), some (ev_i u1), some (ev_o 10 w2), some (ev_i ((S1.1 w2 6) + 1)), some (ev_i 0), none]) (K' := []) (S' := S2) ?_ rfl rfl rfl hS2
              refine ev_aload_n (ev_o 11 a) dX11_goesOn_155 rfl rfl ?_
              refine ev_iload_n (u1) dX11_goesOn_156 rfl ?_
              refine ev_aload_n (ev_o 11 a) dX11_goesOn_157 rfl rfl ?_
              refine gf_11_30 dX11_goesOn_158 kw_850 ?_
              refine ev_iload_n (((S1.1 w2 6) + 1)) dX11_goesOn_161 rfl ?_
              refine ev_iaload dX11_goesOn_162 h2 ?_
              refine ev_aload_n (ev_o 11 a) dX11_goesOn_163 rfl rfl ?_
              refine gf_11_31 dX11_goesOn_164 kw_852 ?_
              refine ev_iload_n (((S1.1 w2 6) + 1)) dX11_goesOn_167 rfl ?_
              refine ev_iaload dX11_goesOn_168 h2 ?_
              refine ev_cV mv_X11_applies 1 0 11 [ev_i u1, ev_i (S2.1 (a + 34) ((S1.1 w2 6) + 1).toNatClampNeg), ev_i (S2.1 (a + 35) ((S1.1 w2 6) + 1).toNatClampNeg)] [] dX11_goesOn_169 kw_1384 rfl (by decide) rfl (by decide) (by decide) (Nat.le_of_ble_eq_true rfl) hQ ?_ rfl
              rintro o S3 ⟨rfl, hQ⟩
              show ev_E g m_X11_goesOn 3 0 172 [some (ev_o 11 a), some (ev_i u1), some (ev_o 10 w2), some (ev_i ((S1.1 w2 6) + 1)), some (ev_i 0), none] [] S3 Q
              refine ev_goto 176 dX11_goesOn_172 (by decide) ?_
              refine ev_goto 7 dX11_goesOn_176 (by decide) ?_
              refine ev_fgm [true, true, true, false, false, false] ?_
              exact hQ
      · replace hQ := hQ.2 c3
        refine ev_aload_n (ev_o 10 w2) dX11_goesOn_45 rfl rfl ?_
        refine gn_10_3 dX11_goesOn_46 (List.mem_of_getElem? (i := 7) rfl) ?_
        refine ev_iload_n (((S1.1 w2 6) + 1)) dX11_goesOn_49 rfl ?_
        refine ev_iaload dX11_goesOn_50 h1 ?_
        refine ev_istore dX11_goesOn_51 (Nat.le_of_ble_eq_true rfl) (ev_hw rfl) ?_
        show ev_E g m_X11_goesOn 3 0 53 [some (ev_o 11 a), some (ev_i u1), some (ev_o 10 w2), some (ev_i ((S1.1 w2 6) + 1)), some (ev_i 0), some (ev_i (S1.1 (w2 + 4) ((S1.1 w2 6) + 1).toNatClampNeg))] [] S1 Q
        refine ev_aload_n (ev_o 10 w2) dX11_goesOn_53 rfl rfl ?_
        refine gn_10_3 dX11_goesOn_54 (List.mem_of_getElem? (i := 7) rfl) ?_
        refine ev_iload_n (((S1.1 w2 6) + 1)) dX11_goesOn_57 rfl ?_
        refine ev_iconst (-1) dX11_goesOn_58 rfl ?_
        refine ev_iastore dX11_goesOn_59 h1 ?_
        refine ev_sub hQ (fun S4 hS4 hQ => ?_)
        refine ev_E.goal (pc' := 60) (L' := [some (ev_o 11 a), some (ev_i u1), some (ev_o 10 w2), some (ev_i ((S1.1 w2 6) + 1)), some (ev_i 0), some (ev_i (S1.1 (w2 + 4) ((S1.1 w2 6) + 1).toNatClampNeg))]) (K' := []) (S' := S4) ?_ rfl rfl rfl hS4
        refine ev_aload_n (ev_o 11 a) dX11_goesOn_60 rfl rfl ?_
        refine ev_iload_n (u1) dX11_goesOn_61 rfl ?_
        refine ev_iload ((S1.1 (w2 + 4) ((S1.1 w2 6) + 1).toNatClampNeg)) dX11_goesOn_62 rfl ?_
        refine ev_aload_n (ev_o 10 w2) dX11_goesOn_64 rfl rfl ?_
        refine gn_10_4 dX11_goesOn_65 (List.mem_of_getElem? (i := 8) rfl) ?_
        refine ev_iload_n (((S1.1 w2 6) + 1)) dX11_goesOn_68 rfl ?_
        refine ev_iaload dX11_goesOn_69 h1 ?_
        refine ev_ke (j_rk hS4 (Or.inl (by omega))) ?_
        refine ev_cV mv_X11_applies 1 0 11 [ev_i u1, ev_i (S1.1 (w2 + 4) ((S1.1 w2 6) + 1).toNatClampNeg), ev_i (S1.1 (w2 + 5) ((S1.1 w2 6) + 1).toNatClampNeg)] [] dX11_goesOn_70 kw_1384 rfl (by decide) rfl (by decide) (by decide) (Nat.le_of_ble_eq_true rfl) hQ ?_ rfl
        rintro o S5 ⟨rfl, hQ⟩
        show ev_E g m_X11_goesOn 3 0 73 [some (ev_o 11 a), some (ev_i u1), some (ev_o 10 w2), some (ev_i ((S1.1 w2 6) + 1)), some (ev_i 0), some (ev_i (S1.1 (w2 + 4) ((S1.1 w2 6) + 1).toNatClampNeg))] [] S5 Q
        refine ev_goto 176 dX11_goesOn_73 (by decide) ?_
        refine ev_goto 7 dX11_goesOn_176 (by decide) ?_
        refine ev_fgm [true, true, true, false, false, false] ?_
        exact hQ
    · replace hQ := hQ.2 c2
      refine ev_iconst (1) dX11_goesOn_29 rfl ?_
      refine ev_goto 34 dX11_goesOn_30 (by decide) ?_
      refine ev_istore dX11_goesOn_34 (Nat.le_of_ble_eq_true rfl) (ev_hw rfl) ?_
      show ev_E g m_X11_goesOn 3 0 36 [some (ev_o 11 a), some (ev_i u1), some (ev_o 10 w2), some (ev_i ((S1.1 w2 6) + 1)), some (ev_i 1), none] [] S1 Q
      refine ev_aload_n (ev_o 10 w2) dX11_goesOn_36 rfl rfl ?_
      refine gn_10_3 dX11_goesOn_37 (List.mem_of_getElem? (i := 7) rfl) ?_
      refine ev_iload_n (((S1.1 w2 6) + 1)) dX11_goesOn_40 rfl ?_
      obtain ⟨h4, hQ⟩ := hQ
      refine ev_iaload dX11_goesOn_41 h4 ?_
      refine ev_if_lt 76 dX11_goesOn_42 (by decide) (fun c7 => ?_) (fun c7 => ?_)
      · replace hQ := hQ.1 c7
        refine ev_iload (1) dX11_goesOn_76 rfl ?_
        refine ev_if_eq 93 dX11_goesOn_78 (by decide) (fun h9 => absurd h9 (by decide : ¬ ((1 : Int32) = 0))) (fun _ => ?_)
        refine ev_aload_n (ev_o 11 a) dX11_goesOn_81 rfl rfl ?_
        refine gf_11_26 dX11_goesOn_82 kw_843 ?_
        refine ev_iload_n (((S1.1 w2 6) + 1)) dX11_goesOn_85 rfl ?_
        obtain ⟨h5, hQ⟩ := hQ
        refine ev_baload (n := 64) (by decide) dX11_goesOn_86 h5 ?_
        refine ev_if_eq 175 dX11_goesOn_87 (by decide) (fun c8 => ?_) (fun c8 => ?_)
        · replace hQ := hQ.1 c8
          exact ev_return dX11_goesOn_175 rfl hQ
        · replace hQ := hQ.2 c8
          refine ev_goto 102 dX11_goesOn_90 (by decide) ?_
          refine ev_aload_n (ev_o 10 w2) dX11_goesOn_102 rfl rfl ?_
          refine gn_10_1 dX11_goesOn_103 (List.mem_of_getElem? (i := 2) rfl) ?_
          refine ev_iload_n (((S1.1 w2 6) + 1)) dX11_goesOn_106 rfl ?_
          refine ev_iconst (1) dX11_goesOn_107 rfl ?_
          refine ev_isub dX11_goesOn_108 ?_
          obtain ⟨h6, hQ⟩ := hQ
          refine ev_iaload dX11_goesOn_109 h6 ?_
          refine ev_aload_n (ev_o 11 a) dX11_goesOn_110 rfl rfl ?_
          refine gf_11_28 dX11_goesOn_111 kw_846 ?_
          refine ev_iload_n (((S1.1 w2 6) + 1)) dX11_goesOn_114 rfl ?_
          refine ev_iaload dX11_goesOn_115 h5 ?_
          refine ev_icmp_ne 175 dX11_goesOn_116 (by decide) (fun c9 => ?_) (fun c9 => ?_)
          · replace hQ := hQ.2 c9
            exact ev_return dX11_goesOn_175 rfl hQ
          · replace hQ := hQ.1 c9
            refine ev_aload_n (ev_o 10 w2) dX11_goesOn_119 rfl rfl ?_
            refine gn_10_2 dX11_goesOn_120 (List.mem_of_getElem? (i := 4) rfl) ?_
            refine ev_iload_n (((S1.1 w2 6) + 1)) dX11_goesOn_123 rfl ?_
            refine ev_iconst (1) dX11_goesOn_124 rfl ?_
            refine ev_isub dX11_goesOn_125 ?_
            refine ev_iaload dX11_goesOn_126 h6 ?_
            refine ev_aload_n (ev_o 11 a) dX11_goesOn_127 rfl rfl ?_
            refine gf_11_29 dX11_goesOn_128 kw_848 ?_
            refine ev_iload_n (((S1.1 w2 6) + 1)) dX11_goesOn_131 rfl ?_
            refine ev_iaload dX11_goesOn_132 h5 ?_
            refine ev_icmp_ne 175 dX11_goesOn_133 (by decide) (fun c10 => ?_) (fun c10 => ?_)
            · replace hQ := hQ.2 c10
              exact ev_return dX11_goesOn_175 rfl hQ
            · replace hQ := hQ.1 c10
              refine ev_aload_n (ev_o 10 w2) dX11_goesOn_136 rfl rfl ?_
              refine ev_dup dX11_goesOn_137 rfl ?_
              refine gn_10_11 dX11_goesOn_138 (List.mem_of_getElem? (i := 20) rfl) ?_
              refine ev_iload (1) dX11_goesOn_141 rfl ?_
              refine ev_if_eq 150 dX11_goesOn_143 (by decide) (fun h9 => absurd h9 (by decide : ¬ ((1 : Int32) = 0))) (fun _ => ?_)
              refine ev_iconst (1) dX11_goesOn_146 rfl ?_
              refine ev_goto 151 dX11_goesOn_147 (by decide) ?_
              refine ev_iadd dX11_goesOn_151 ?_
              refine pn_10_11 dX11_goesOn_152 (List.mem_of_getElem? (i := 20) rfl) ?_
              refine ev_sub hQ (fun S6 hS6 hQ => ?_)
              refine ev_E.goal (pc' := 155) (L' := [some (ev_o 11 a), some (ev_i u1), some (ev_o 10 w2), some (ev_i ((S1.1 w2 6) + 1)), some (ev_i 1), none]) (K' := []) (S' := S6) ?_ rfl rfl rfl hS6
              refine ev_aload_n (ev_o 11 a) dX11_goesOn_155 rfl rfl ?_
              refine ev_iload_n (u1) dX11_goesOn_156 rfl ?_
              refine ev_aload_n (ev_o 11 a) dX11_goesOn_157 rfl rfl ?_
              refine gf_11_30 dX11_goesOn_158 kw_850 ?_
              refine ev_iload_n (((S1.1 w2 6) + 1)) dX11_goesOn_161 rfl ?_
              refine ev_iaload dX11_goesOn_162 h5 ?_
              refine ev_aload_n (ev_o 11 a) dX11_goesOn_163 rfl rfl ?_
              refine gf_11_31 dX11_goesOn_164 kw_852 ?_
              refine ev_iload_n (((S1.1 w2 6) + 1)) dX11_goesOn_167 rfl ?_
              refine ev_iaload dX11_goesOn_168 h5 ?_
              refine ev_cV mv_X11_applies 1 0 11 [ev_i u1, ev_i (S6.1 (a + 34) ((S1.1 w2 6) + 1).toNatClampNeg), ev_i (S6.1 (a + 35) ((S1.1 w2 6) + 1).toNatClampNeg)] [] dX11_goesOn_169 kw_1384 rfl (by decide) rfl (by decide) (by decide) (Nat.le_of_ble_eq_true rfl) hQ ?_ rfl
              rintro o S7 ⟨rfl, hQ⟩
              show ev_E g m_X11_goesOn 3 0 172 [some (ev_o 11 a), some (ev_i u1), some (ev_o 10 w2), some (ev_i ((S1.1 w2 6) + 1)), some (ev_i 1), none] [] S7 Q
              refine ev_goto 176 dX11_goesOn_172 (by decide) ?_
              refine ev_goto 7 dX11_goesOn_176 (by decide) ?_
              refine ev_fgm [true, true, true, false, false, false] ?_
              exact hQ
      · replace hQ := hQ.2 c7
        refine ev_aload_n (ev_o 10 w2) dX11_goesOn_45 rfl rfl ?_
        refine gn_10_3 dX11_goesOn_46 (List.mem_of_getElem? (i := 7) rfl) ?_
        refine ev_iload_n (((S1.1 w2 6) + 1)) dX11_goesOn_49 rfl ?_
        refine ev_iaload dX11_goesOn_50 h4 ?_
        refine ev_istore dX11_goesOn_51 (Nat.le_of_ble_eq_true rfl) (ev_hw rfl) ?_
        show ev_E g m_X11_goesOn 3 0 53 [some (ev_o 11 a), some (ev_i u1), some (ev_o 10 w2), some (ev_i ((S1.1 w2 6) + 1)), some (ev_i 1), some (ev_i (S1.1 (w2 + 4) ((S1.1 w2 6) + 1).toNatClampNeg))] [] S1 Q
        refine ev_aload_n (ev_o 10 w2) dX11_goesOn_53 rfl rfl ?_
        refine gn_10_3 dX11_goesOn_54 (List.mem_of_getElem? (i := 7) rfl) ?_
        refine ev_iload_n (((S1.1 w2 6) + 1)) dX11_goesOn_57 rfl ?_
        refine ev_iconst (-1) dX11_goesOn_58 rfl ?_
        refine ev_iastore dX11_goesOn_59 h4 ?_
        refine ev_sub hQ (fun S8 hS8 hQ => ?_)
        refine ev_E.goal (pc' := 60) (L' := [some (ev_o 11 a), some (ev_i u1), some (ev_o 10 w2), some (ev_i ((S1.1 w2 6) + 1)), some (ev_i 1), some (ev_i (S1.1 (w2 + 4) ((S1.1 w2 6) + 1).toNatClampNeg))]) (K' := []) (S' := S8) ?_ rfl rfl rfl hS8
        refine ev_aload_n (ev_o 11 a) dX11_goesOn_60 rfl rfl ?_
        refine ev_iload_n (u1) dX11_goesOn_61 rfl ?_
        refine ev_iload ((S1.1 (w2 + 4) ((S1.1 w2 6) + 1).toNatClampNeg)) dX11_goesOn_62 rfl ?_
        refine ev_aload_n (ev_o 10 w2) dX11_goesOn_64 rfl rfl ?_
        refine gn_10_4 dX11_goesOn_65 (List.mem_of_getElem? (i := 8) rfl) ?_
        refine ev_iload_n (((S1.1 w2 6) + 1)) dX11_goesOn_68 rfl ?_
        refine ev_iaload dX11_goesOn_69 h4 ?_
        refine ev_ke (j_rk hS8 (Or.inl (by omega))) ?_
        refine ev_cV mv_X11_applies 1 0 11 [ev_i u1, ev_i (S1.1 (w2 + 4) ((S1.1 w2 6) + 1).toNatClampNeg), ev_i (S1.1 (w2 + 5) ((S1.1 w2 6) + 1).toNatClampNeg)] [] dX11_goesOn_70 kw_1384 rfl (by decide) rfl (by decide) (by decide) (Nat.le_of_ble_eq_true rfl) hQ ?_ rfl
        rintro o S9 ⟨rfl, hQ⟩
        show ev_E g m_X11_goesOn 3 0 73 [some (ev_o 11 a), some (ev_i u1), some (ev_o 10 w2), some (ev_i ((S1.1 w2 6) + 1)), some (ev_i 1), some (ev_i (S1.1 (w2 + 4) ((S1.1 w2 6) + 1).toNatClampNeg))] [] S9 Q
        refine ev_goto 176 dX11_goesOn_73 (by decide) ?_
        refine ev_goto 7 dX11_goesOn_176 (by decide) ?_
        refine ev_fgm [true, true, true, false, false, false] ?_
        exact hQ
set_option maxHeartbeats 4000000 in
set_option maxRecDepth 100000 in
theorem sg_X11_month_0 {g : ev_G} {S : ev_S} {Q : ev_O → ev_S → Prop} (a : Nat) (hQ : Q (.inl (some (ev_i (ev_rem ((S.1 a 2) / 30) 12)))) S) : ev_Cv g m_X11_month 1 0 [ev_o 11 a] S Q := by
  refine ev_enter (by decide) rfl rfl (Nat.le_of_ble_eq_true rfl) ?_
  show ev_E g m_X11_month 1 0 0 [some (ev_o 11 a)] [] S Q
  refine ev_aload_n (ev_o 11 a) dX11_month_0 rfl rfl ?_
  refine gf_11_2 dX11_month_1 kw_801 ?_
  refine ev_bipush (30) dX11_month_4 (by decide) ?_
  refine ev_idiv dX11_month_6 (by decide) ?_
  refine ev_bipush (12) dX11_month_7 (by decide) ?_
  refine ev_irem dX11_month_9 (by decide) ?_
  exact ev_ireturn .int dX11_month_10 rfl rfl hQ
set_option maxHeartbeats 4000000 in
set_option maxRecDepth 100000 in
theorem sp_X11_month {g : ev_G} {S : ev_S} (a : Nat)  : ev_Fn g m_X11_month 1 [ev_o 11 a] S (some (ev_i (ev_rem ((S.1 a 2) / 30) 12))) S := by
  intro Q hQ
  refine sg_X11_month_0 a ?_
  exact hQ
set_option maxHeartbeats 4000000 in
set_option maxRecDepth 100000 in
theorem sg_X11_depth_0 {g : ev_G} {S : ev_S} {Q : ev_O → ev_S → Prop} (a : Nat) (x0 : Int32) (hQ : (vp_in ((12 * x0) + (ev_rem ((S.1 a 2) / 30) 12)) 48) ∧ (
    Q (.inl (some (ev_i (S.1 (a + 18) ((12 * x0) + (ev_rem ((S.1 a 2) / 30) 12)).toNatClampNeg)))) S)) : ev_Cv g m_X11_depth 2 0 [ev_o 11 a, ev_i x0] S Q := by
  refine ev_enter (by decide) rfl rfl (Nat.le_of_ble_eq_true rfl) ?_
  show ev_E g m_X11_depth 2 0 0 [some (ev_o 11 a), some (ev_i x0)] [] S Q
  refine ev_aload_n (ev_o 11 a) dX11_depth_0 rfl rfl ?_
  refine gf_11_14 dX11_depth_1 kw_824 ?_
  refine ev_bipush (12) dX11_depth_4 (by decide) ?_
  refine ev_iload_n (x0) dX11_depth_6 rfl ?_
  refine ev_imul dX11_depth_7 ?_
  refine ev_aload_n (ev_o 11 a) dX11_depth_8 rfl rfl ?_
  refine ev_fV mv_X11_month 1 11 [] [ev_i (12 * x0), ev_y 48 (a + 18)] dX11_depth_9 kw_1185 rfl (by decide) rfl (by decide) (Nat.le_of_ble_eq_true rfl) (sp_X11_month a) ?_ rfl
  refine ev_iadd dX11_depth_12 ?_
  obtain ⟨h1, hQ⟩ := hQ
  refine ev_iaload dX11_depth_13 h1 ?_
  exact ev_ireturn .int dX11_depth_14 rfl rfl hQ
set_option maxHeartbeats 4000000 in
set_option maxRecDepth 100000 in
theorem sp_X11_depth {g : ev_G} {S : ev_S} (a : Nat) (x0 : Int32) (q0 : vp_in ((12 * x0) + (ev_rem ((S.1 a 2) / 30) 12)) 48) : ev_Fn g m_X11_depth 2 [ev_o 11 a, ev_i x0] S (some (ev_i (S.1 (a + 18) ((12 * x0) + (ev_rem ((S.1 a 2) / 30) 12)).toNatClampNeg))) S := by
  intro Q hQ
  refine sg_X11_depth_0 a x0 ?_
  refine ⟨(q0), ?_⟩
  exact hQ
set_option maxHeartbeats 4000000 in
set_option maxRecDepth 100000 in
theorem sg_X11_posts_0 {g : ev_G} {S : ev_S} {Q : ev_O → ev_S → Prop} (a : Nat) (x0 : Int32) (x1 : Int32) (x2 : Int32) (x3 : Int32) (x4 : Int32) (x5 : Int32) (hQ : (vp_in (S.1 a 4) 81) ∧ (
    ∀ S1 : ev_S, S1 = (ev_up S (a + 19) (S.1 a 4).toNatClampNeg x0) → (
      ∀ S2 : ev_S, S2 = (ev_up S1 (a + 20) (S.1 a 4).toNatClampNeg x1) → (
        (vp_nar .boolean x2 = x2) ∧ (
          ∀ S3 : ev_S, S3 = (ev_up S2 (a + 29) (S.1 a 4).toNatClampNeg x2) → (
            ∀ S4 : ev_S, S4 = (ev_up S3 (a + 21) (S.1 a 4).toNatClampNeg x3) → (
              ∀ S5 : ev_S, S5 = (ev_up S4 (a + 22) (S.1 a 4).toNatClampNeg x4) → (
                ∀ S6 : ev_S, S6 = (ev_up S5 (a + 23) (S.1 a 4).toNatClampNeg x5) → (
                  ∀ S7 : ev_S, S7 = (ev_up S6 (a + 24) (S.1 a 4).toNatClampNeg 0) → (
                    ∀ S8 : ev_S, S8 = (ev_up S7 (a + 25) (S.1 a 4).toNatClampNeg (S.1 a 2)) → (
                      ∀ S9 : ev_S, S9 = (ev_up S8 a 4 ((S.1 a 4) + 1)) → (
                        Q (.inl (some (ev_i (S.1 a 4)))) S9)))))))))))) : ev_Cv g m_X11_posts 1 0 [ev_o 11 a, ev_i x0, ev_i x1, ev_i x2, ev_i x3, ev_i x4, ev_i x5] S Q := by
  refine ev_enter (by decide) rfl rfl (Nat.le_of_ble_eq_true rfl) ?_
  show ev_E g m_X11_posts 1 0 0 [some (ev_o 11 a), some (ev_i x0), some (ev_i x1), some (ev_i x2), some (ev_i x3), some (ev_i x4), some (ev_i x5), none] [] S Q
  refine ev_aload_n (ev_o 11 a) dX11_posts_0 rfl rfl ?_
  refine gf_11_4 dX11_posts_1 kw_805 ?_
  refine ev_istore dX11_posts_4 (Nat.le_of_ble_eq_true rfl) (ev_hw rfl) ?_
  show ev_E g m_X11_posts 1 0 6 [some (ev_o 11 a), some (ev_i x0), some (ev_i x1), some (ev_i x2), some (ev_i x3), some (ev_i x4), some (ev_i x5), some (ev_i (S.1 a 4))] [] S Q
  refine ev_aload_n (ev_o 11 a) dX11_posts_6 rfl rfl ?_
  refine gf_11_15 dX11_posts_7 kw_826 ?_
  refine ev_iload ((S.1 a 4)) dX11_posts_10 rfl ?_
  refine ev_iload_n (x0) dX11_posts_12 rfl ?_
  obtain ⟨h1, hQ⟩ := hQ
  refine ev_iastore dX11_posts_13 h1 ?_
  refine ev_sub hQ (fun S1 hS1 hQ => ?_)
  refine ev_E.goal (pc' := 14) (L' := [some (ev_o 11 a), some (ev_i x0), some (ev_i x1), some (ev_i x2), some (ev_i x3), some (ev_i x4), some (ev_i x5), some (ev_i (S.1 a 4))]) (K' := []) (S' := S1) ?_ rfl rfl rfl hS1
  refine ev_aload_n (ev_o 11 a) dX11_posts_14 rfl rfl ?_
  refine gf_11_16 dX11_posts_15 kw_828 ?_
  refine ev_iload ((S.1 a 4)) dX11_posts_18 rfl ?_
  refine ev_iload_n (x1) dX11_posts_20 rfl ?_
  refine ev_iastore dX11_posts_21 h1 ?_
  refine ev_sub hQ (fun S2 hS2 hQ => ?_)
  refine ev_E.goal (pc' := 22) (L' := [some (ev_o 11 a), some (ev_i x0), some (ev_i x1), some (ev_i x2), some (ev_i x3), some (ev_i x4), some (ev_i x5), some (ev_i (S.1 a 4))]) (K' := []) (S' := S2) ?_ rfl rfl rfl hS2
  refine ev_aload_n (ev_o 11 a) dX11_posts_22 rfl rfl ?_
  refine gf_11_25 dX11_posts_23 kw_841 ?_
  refine ev_iload ((S.1 a 4)) dX11_posts_26 rfl ?_
  refine ev_iload_n (x2) dX11_posts_28 rfl ?_
  obtain ⟨h2, hQ⟩ := hQ
  refine ev_bastore (n := 81) (by decide) dX11_posts_29 h1 h2 ?_
  refine ev_sub hQ (fun S3 hS3 hQ => ?_)
  refine ev_E.goal (pc' := 30) (L' := [some (ev_o 11 a), some (ev_i x0), some (ev_i x1), some (ev_i x2), some (ev_i x3), some (ev_i x4), some (ev_i x5), some (ev_i (S.1 a 4))]) (K' := []) (S' := S3) ?_ rfl rfl rfl hS3
  refine ev_aload_n (ev_o 11 a) dX11_posts_30 rfl rfl ?_
  refine gf_11_17 dX11_posts_31 kw_829 ?_
  refine ev_iload ((S.1 a 4)) dX11_posts_34 rfl ?_
  refine ev_iload (x3) dX11_posts_36 rfl ?_
  refine ev_iastore dX11_posts_38 h1 ?_
  refine ev_sub hQ (fun S4 hS4 hQ => ?_)
  refine ev_E.goal (pc' := 39) (L' := [some (ev_o 11 a), some (ev_i x0), some (ev_i x1), some (ev_i x2), some (ev_i x3), some (ev_i x4), some (ev_i x5), some (ev_i (S.1 a 4))]) (K' := []) (S' := S4) ?_ rfl rfl rfl hS4
  refine ev_aload_n (ev_o 11 a) dX11_posts_39 rfl rfl ?_
  refine gf_11_18 dX11_posts_40 kw_831 ?_
  refine ev_iload ((S.1 a 4)) dX11_posts_43 rfl ?_
  refine ev_iload (x4) dX11_posts_45 rfl ?_
  refine ev_iastore dX11_posts_47 h1 ?_
  refine ev_sub hQ (fun S5 hS5 hQ => ?_)
  refine ev_E.goal (pc' := 48) (L' := [some (ev_o 11 a), some (ev_i x0), some (ev_i x1), some (ev_i x2), some (ev_i x3), some (ev_i x4), some (ev_i x5), some (ev_i (S.1 a 4))]) (K' := []) (S' := S5) ?_ rfl rfl rfl hS5
  refine ev_aload_n (ev_o 11 a) dX11_posts_48 rfl rfl ?_
  refine gf_11_19 dX11_posts_49 kw_833 ?_
  refine ev_iload ((S.1 a 4)) dX11_posts_52 rfl ?_
  refine ev_iload (x5) dX11_posts_54 rfl ?_
  refine ev_iastore dX11_posts_56 h1 ?_
  refine ev_sub hQ (fun S6 hS6 hQ => ?_)
  refine ev_E.goal (pc' := 57) (L' := [some (ev_o 11 a), some (ev_i x0), some (ev_i x1), some (ev_i x2), some (ev_i x3), some (ev_i x4), some (ev_i x5), some (ev_i (S.1 a 4))]) (K' := []) (S' := S6) ?_ rfl rfl rfl hS6
  refine ev_aload_n (ev_o 11 a) dX11_posts_57 rfl rfl ?_
  refine gf_11_20 dX11_posts_58 kw_835 ?_
  refine ev_iload ((S.1 a 4)) dX11_posts_61 rfl ?_
  refine ev_iconst (0) dX11_posts_63 rfl ?_
  refine ev_iastore dX11_posts_64 h1 ?_
  refine ev_sub hQ (fun S7 hS7 hQ => ?_)
  refine ev_E.goal (pc' := 65) (L' := [some (ev_o 11 a), some (ev_i x0), some (ev_i x1), some (ev_i x2), some (ev_i x3), some (ev_i x4), some (ev_i x5), some (ev_i (S.1 a 4))]) (K' := []) (S' := S7) ?_ rfl rfl rfl hS7
  refine ev_aload_n (ev_o 11 a) dX11_posts_65 rfl rfl ?_
  refine gf_11_21 dX11_posts_66 kw_837 ?_
  refine ev_iload ((S.1 a 4)) dX11_posts_69 rfl ?_
  refine ev_aload_n (ev_o 11 a) dX11_posts_71 rfl rfl ?_
  refine gf_11_2 dX11_posts_72 kw_801 ?_
  refine ev_ke (((((((j_rk hS7 (Or.inl (by omega))).trans (j_rk hS6 (Or.inl (by omega)))).trans (j_rk hS5 (Or.inl (by omega)))).trans (j_rk hS4 (Or.inl (by omega)))).trans (j_rk hS3 (Or.inl (by omega)))).trans (j_rk hS2 (Or.inl (by omega)))).trans (j_rk hS1 (Or.inl (by omega)))) ?_
  refine ev_iastore dX11_posts_75 h1 ?_
  refine ev_sub hQ (fun S8 hS8 hQ => ?_)
  refine ev_E.goal (pc' := 76) (L' := [some (ev_o 11 a), some (ev_i x0), some (ev_i x1), some (ev_i x2), some (ev_i x3), some (ev_i x4), some (ev_i x5), some (ev_i (S.1 a 4))]) (K' := []) (S' := S8) ?_ rfl rfl rfl hS8
  refine ev_aload_n (ev_o 11 a) dX11_posts_76 rfl rfl ?_
  refine ev_dup dX11_posts_77 rfl ?_
  refine gf_11_4 dX11_posts_78 kw_805 ?_
  refine ev_ke ((((((((j_rk hS8 (Or.inl (by omega))).trans (j_rk hS7 (Or.inl (by omega)))).trans (j_rk hS6 (Or.inl (by omega)))).trans (j_rk hS5 (Or.inl (by omega)))).trans (j_rk hS4 (Or.inl (by omega)))).trans (j_rk hS3 (Or.inl (by omega)))).trans (j_rk hS2 (Or.inl (by omega)))).trans (j_rk hS1 (Or.inl (by omega)))) ?_
  refine ev_iconst (1) dX11_posts_81 rfl ?_
  refine ev_iadd dX11_posts_82 ?_
  refine pf_11_4 dX11_posts_83 kw_805 ?_
  refine ev_sub hQ (fun S9 hS9 hQ => ?_)
  refine ev_E.goal (pc' := 86) (L' := [some (ev_o 11 a), some (ev_i x0), some (ev_i x1), some (ev_i x2), some (ev_i x3), some (ev_i x4), some (ev_i x5), some (ev_i (S.1 a 4))]) (K' := []) (S' := S9) ?_ rfl rfl rfl hS9
  refine ev_iload ((S.1 a 4)) dX11_posts_86 rfl ?_
  exact ev_ireturn .int dX11_posts_88 rfl rfl hQ
set_option maxHeartbeats 4000000 in
set_option maxRecDepth 100000 in
theorem sg_X11_arrives_0 {g : ev_G} {S : ev_S} {Q : ev_O → ev_S → Prop} (a : Nat) (x0 : Int32) (hQ : (vp_in x0 81) ∧ (
    ∀ S1 : ev_S, S1 = (ev_up S (a + 24) x0.toNatClampNeg 2) → (
      ∀ S2 : ev_S, S2 = (ev_up S1 (a + 28) x0.toNatClampNeg (S.1 a 2)) → (
        (vp_in ((2 * (S.1 (a + 20) x0.toNatClampNeg)) + (1 - (S.1 (a + 19) x0.toNatClampNeg))) 8) ∧ (
          ∀ S3 : ev_S, S3 = (ev_up S2 (a + 17) ((2 * (S.1 (a + 20) x0.toNatClampNeg)) + (1 - (S.1 (a + 19) x0.toNatClampNeg))).toNatClampNeg ((S.1 (a + 17) ((2 * (S.1 (a + 20) x0.toNatClampNeg)) + (1 - (S.1 (a + 19) x0.toNatClampNeg))).toNatClampNeg) + 1)) → (
            ∀ S4 : ev_S, S4 = (ev_up S3 a 7 ((S.1 a 7) + ((S.1 a 2) - (S.1 (a + 25) x0.toNatClampNeg)))) → (
              ∀ S5 : ev_S, S5 = (ev_up S4 a 8 ((S.1 a 8) + 1)) → (
                (x0 = (S.1 a 32) → (
                  Q (.inl none) S5)) ∧
                (¬ (x0 = (S.1 a 32)) → (
                  ev_E g m_X11_arrives 4 0 91 [some (ev_o 11 a), some (ev_i x0), some (ev_i (1 - (S.1 (a + 19) x0.toNatClampNeg))), some (ev_i (S.1 (a + 21) x0.toNatClampNeg)), none] [] S5 Q)))))))))) : ev_Cv g m_X11_arrives 4 0 [ev_o 11 a, ev_i x0] S Q := by
  refine ev_enter (by decide) rfl rfl (Nat.le_of_ble_eq_true rfl) ?_
  show ev_E g m_X11_arrives 4 0 0 [some (ev_o 11 a), some (ev_i x0), none, none, none] [] S Q
  refine ev_iconst (1) dX11_arrives_0 rfl ?_
  refine ev_aload_n (ev_o 11 a) dX11_arrives_1 rfl rfl ?_
  refine gf_11_15 dX11_arrives_2 kw_826 ?_
  refine ev_iload_n (x0) dX11_arrives_5 rfl ?_
  obtain ⟨h1, hQ⟩ := hQ
  refine ev_iaload dX11_arrives_6 h1 ?_
  refine ev_isub dX11_arrives_7 ?_
  refine ev_istore_n dX11_arrives_8 (Nat.le_of_ble_eq_true rfl) (ev_hw rfl) ?_
  show ev_E g m_X11_arrives 4 0 9 [some (ev_o 11 a), some (ev_i x0), some (ev_i (1 - (S.1 (a + 19) x0.toNatClampNeg))), none, none] [] S Q
  refine ev_aload_n (ev_o 11 a) dX11_arrives_9 rfl rfl ?_
  refine gf_11_17 dX11_arrives_10 kw_829 ?_
  refine ev_iload_n (x0) dX11_arrives_13 rfl ?_
  refine ev_iaload dX11_arrives_14 h1 ?_
  refine ev_istore_n dX11_arrives_15 (Nat.le_of_ble_eq_true rfl) (ev_hw rfl) ?_
  show ev_E g m_X11_arrives 4 0 16 [some (ev_o 11 a), some (ev_i x0), some (ev_i (1 - (S.1 (a + 19) x0.toNatClampNeg))), some (ev_i (S.1 (a + 21) x0.toNatClampNeg)), none] [] S Q
  refine ev_aload_n (ev_o 11 a) dX11_arrives_16 rfl rfl ?_
  refine gf_11_20 dX11_arrives_17 kw_835 ?_
  refine ev_iload_n (x0) dX11_arrives_20 rfl ?_
  refine ev_iconst (2) dX11_arrives_21 rfl ?_
  refine ev_iastore dX11_arrives_22 h1 ?_
  refine ev_sub hQ (fun S1 hS1 hQ => ?_)
  refine ev_E.goal (pc' := 23) (L' := [some (ev_o 11 a), some (ev_i x0), some (ev_i (1 - (S.1 (a + 19) x0.toNatClampNeg))), some (ev_i (S.1 (a + 21) x0.toNatClampNeg)), none]) (K' := []) (S' := S1) ?_ rfl rfl rfl hS1
  refine ev_aload_n (ev_o 11 a) dX11_arrives_23 rfl rfl ?_
  refine gf_11_24 dX11_arrives_24 kw_840 ?_
  refine ev_iload_n (x0) dX11_arrives_27 rfl ?_
  refine ev_aload_n (ev_o 11 a) dX11_arrives_28 rfl rfl ?_
  refine gf_11_2 dX11_arrives_29 kw_801 ?_
  refine ev_ke (j_rk hS1 (Or.inl (by omega))) ?_
  refine ev_iastore dX11_arrives_32 h1 ?_
  refine ev_sub hQ (fun S2 hS2 hQ => ?_)
  refine ev_E.goal (pc' := 33) (L' := [some (ev_o 11 a), some (ev_i x0), some (ev_i (1 - (S.1 (a + 19) x0.toNatClampNeg))), some (ev_i (S.1 (a + 21) x0.toNatClampNeg)), none]) (K' := []) (S' := S2) ?_ rfl rfl rfl hS2
  refine ev_aload_n (ev_o 11 a) dX11_arrives_33 rfl rfl ?_
  refine gf_11_13 dX11_arrives_34 kw_822 ?_
  refine ev_iconst (2) dX11_arrives_37 rfl ?_
  refine ev_aload_n (ev_o 11 a) dX11_arrives_38 rfl rfl ?_
  refine gf_11_16 dX11_arrives_39 kw_828 ?_
  refine ev_iload_n (x0) dX11_arrives_42 rfl ?_
  refine ev_iaload dX11_arrives_43 h1 ?_
  refine ev_ke ((j_rk hS2 (Or.inl (by omega))).trans (j_rk hS1 (Or.inl (by omega)))) ?_
  refine ev_imul dX11_arrives_44 ?_
  refine ev_iload_n ((1 - (S.1 (a + 19) x0.toNatClampNeg))) dX11_arrives_45 rfl ?_
  refine ev_iadd dX11_arrives_46 ?_
  refine ev_dup2 dX11_arrives_47 rfl rfl ?_
  obtain ⟨h2, hQ⟩ := hQ
  refine ev_iaload dX11_arrives_48 h2 ?_
  refine ev_ke ((j_rk hS2 (Or.inl (by omega))).trans (j_rk hS1 (Or.inl (by omega)))) ?_
  refine ev_iconst (1) dX11_arrives_49 rfl ?_
  refine ev_iadd dX11_arrives_50 ?_
  refine ev_iastore dX11_arrives_51 h2 ?_
  refine ev_sub hQ (fun S3 hS3 hQ => ?_)
  refine ev_E.goal (pc' := 52) (L' := [some (ev_o 11 a), some (ev_i x0), some (ev_i (1 - (S.1 (a + 19) x0.toNatClampNeg))), some (ev_i (S.1 (a + 21) x0.toNatClampNeg)), none]) (K' := []) (S' := S3) ?_ rfl rfl rfl hS3
  refine ev_aload_n (ev_o 11 a) dX11_arrives_52 rfl rfl ?_
  refine ev_dup dX11_arrives_53 rfl ?_
  refine gf_11_7 dX11_arrives_54 kw_810 ?_
  refine ev_ke (((j_rk hS3 (Or.inl (by omega))).trans (j_rk hS2 (Or.inl (by omega)))).trans (j_rk hS1 (Or.inl (by omega)))) ?_
  refine ev_aload_n (ev_o 11 a) dX11_arrives_57 rfl rfl ?_
  refine gf_11_2 dX11_arrives_58 kw_801 ?_
  refine ev_ke (((j_rk hS3 (Or.inl (by omega))).trans (j_rk hS2 (Or.inl (by omega)))).trans (j_rk hS1 (Or.inl (by omega)))) ?_
  refine ev_aload_n (ev_o 11 a) dX11_arrives_61 rfl rfl ?_
  refine gf_11_21 dX11_arrives_62 kw_837 ?_
  refine ev_iload_n (x0) dX11_arrives_65 rfl ?_
  refine ev_iaload dX11_arrives_66 h1 ?_
  refine ev_ke (((j_rk hS3 (Or.inl (by omega))).trans (j_rk hS2 (Or.inl (by omega)))).trans (j_rk hS1 (Or.inl (by omega)))) ?_
  refine ev_isub dX11_arrives_67 ?_
  refine ev_iadd dX11_arrives_68 ?_
  refine pf_11_7 dX11_arrives_69 kw_810 ?_
  refine ev_sub hQ (fun S4 hS4 hQ => ?_)
  refine ev_E.goal (pc' := 72) (L' := [some (ev_o 11 a), some (ev_i x0), some (ev_i (1 - (S.1 (a + 19) x0.toNatClampNeg))), some (ev_i (S.1 (a + 21) x0.toNatClampNeg)), none]) (K' := []) (S' := S4) ?_ rfl rfl rfl hS4
  refine ev_aload_n (ev_o 11 a) dX11_arrives_72 rfl rfl ?_
  refine ev_dup dX11_arrives_73 rfl ?_
  refine gf_11_8 dX11_arrives_74 kw_812 ?_
  refine ev_ke ((((j_rk hS4 (Or.inr (by decide))).trans (j_rk hS3 (Or.inl (by omega)))).trans (j_rk hS2 (Or.inl (by omega)))).trans (j_rk hS1 (Or.inl (by omega)))) ?_
  refine ev_iconst (1) dX11_arrives_77 rfl ?_
  refine ev_iadd dX11_arrives_78 ?_
  refine pf_11_8 dX11_arrives_79 kw_812 ?_
  refine ev_sub hQ (fun S5 hS5 hQ => ?_)
  refine ev_E.goal (pc' := 82) (L' := [some (ev_o 11 a), some (ev_i x0), some (ev_i (1 - (S.1 (a + 19) x0.toNatClampNeg))), some (ev_i (S.1 (a + 21) x0.toNatClampNeg)), none]) (K' := []) (S' := S5) ?_ rfl rfl rfl hS5
  refine ev_iload_n (x0) dX11_arrives_82 rfl ?_
  refine ev_aload_n (ev_o 11 a) dX11_arrives_83 rfl rfl ?_
  refine gf_11_32 dX11_arrives_84 kw_854 ?_
  refine ev_ke (((((j_rk hS5 (Or.inr (by decide))).trans (j_rk hS4 (Or.inr (by decide)))).trans (j_rk hS3 (Or.inl (by omega)))).trans (j_rk hS2 (Or.inl (by omega)))).trans (j_rk hS1 (Or.inl (by omega)))) ?_
  refine ev_icmp_ne 91 dX11_arrives_87 (by decide) (fun c1 => ?_) (fun c1 => ?_)
  · replace hQ := hQ.2 c1
    exact hQ
  · replace hQ := hQ.1 c1
    exact ev_return dX11_arrives_90 rfl hQ
set_option maxHeartbeats 4000000 in
set_option maxRecDepth 100000 in
theorem sg_X11_arrives_91 {g : ev_G} {S : ev_S} {Q : ev_O → ev_S → Prop} (a : Nat) (u1 : Int32) (u2 : Int32) (u3 : Int32) (hQ : (vp_in u1 81) ∧ (
    ((S.1 (a + 29) u1.toNatClampNeg) = 0 → (
      (vp_in u2 2) ∧ (
        (u3 ≤ (S.1 (a_bd (a + 1) u2) 6) → (
          ev_E g m_X11_arrives 4 0 143 [some (ev_o 11 a), some (ev_i u1), some (ev_i u2), some (ev_i u3), some (ev_i 1)] [] S Q)) ∧
        (¬ (u3 ≤ (S.1 (a_bd (a + 1) u2) 6)) → (
          (vp_in u3 61) ∧ (
            ((S.1 ((a_bd (a + 1) u2) + 4) u3.toNatClampNeg) < 0 → (
              ev_E g m_X11_arrives 4 0 143 [some (ev_o 11 a), some (ev_i u1), some (ev_i u2), some (ev_i u3), some (ev_i 0)] [] S Q)) ∧
            (¬ ((S.1 ((a_bd (a + 1) u2) + 4) u3.toNatClampNeg) < 0) → (
              ev_E g m_X11_arrives 4 0 143 [some (ev_o 11 a), some (ev_i u1), some (ev_i u2), some (ev_i u3), some (ev_i 1)] [] S Q)))))))) ∧
    (¬ ((S.1 (a + 29) u1.toNatClampNeg) = 0) → (
      (vp_in u3 64) ∧ (
        ev_E g m_X11_arrives 4 0 143 [some (ev_o 11 a), some (ev_i u1), some (ev_i u2), some (ev_i u3), some (ev_i (S.1 (a + 31) u3.toNatClampNeg))] [] S Q))))) : ev_E g m_X11_arrives 4 0 91 [some (ev_o 11 a), some (ev_i u1), some (ev_i u2), some (ev_i u3), none] [] S Q := by
  refine ev_aload_n (ev_o 11 a) dX11_arrives_91 rfl rfl ?_
  refine gf_11_25 dX11_arrives_92 kw_841 ?_
  refine ev_iload_n (u1) dX11_arrives_95 rfl ?_
  obtain ⟨h1, hQ⟩ := hQ
  refine ev_baload (n := 81) (by decide) dX11_arrives_96 h1 ?_
  refine ev_if_eq 109 dX11_arrives_97 (by decide) (fun c1 => ?_) (fun c1 => ?_)
  · replace hQ := hQ.1 c1
    refine ev_aload_n (ev_o 11 a) dX11_arrives_109 rfl rfl ?_
    refine gf_11_11 dX11_arrives_110 kw_818 ?_
    refine ev_iload_n (u2) dX11_arrives_113 rfl ?_
    obtain ⟨h2, hQ⟩ := hQ
    refine ev_aalB dX11_arrives_114 h2 ?_
    show ev_E g m_X11_arrives 4 0 115 [some (ev_o 11 a), some (ev_i u1), some (ev_i u2), some (ev_i u3), none] [ev_o 10 (a_bd (a + 1) u2)] S Q
    refine gn_10_6 dX11_arrives_115 (List.mem_of_getElem? (i := 10) rfl) ?_
    refine ev_iload_n (u3) dX11_arrives_118 rfl ?_
    refine ev_icmp_ge 136 dX11_arrives_119 (by decide) (fun c2 => ?_) (fun c2 => ?_)
    · replace hQ := hQ.1 c2
      refine ev_iconst (1) dX11_arrives_136 rfl ?_
      refine ev_goto 141 dX11_arrives_137 (by decide) ?_
      refine ev_istore dX11_arrives_141 (Nat.le_of_ble_eq_true rfl) (ev_hw rfl) ?_
      show ev_E g m_X11_arrives 4 0 143 [some (ev_o 11 a), some (ev_i u1), some (ev_i u2), some (ev_i u3), some (ev_i 1)] [] S Q
      exact hQ
    · replace hQ := hQ.2 c2
      refine ev_aload_n (ev_o 11 a) dX11_arrives_122 rfl rfl ?_
      refine gf_11_11 dX11_arrives_123 kw_818 ?_
      refine ev_iload_n (u2) dX11_arrives_126 rfl ?_
      refine ev_aalB dX11_arrives_127 h2 ?_
      show ev_E g m_X11_arrives 4 0 128 [some (ev_o 11 a), some (ev_i u1), some (ev_i u2), some (ev_i u3), none] [ev_o 10 (a_bd (a + 1) u2)] S Q
      refine gn_10_3 dX11_arrives_128 (List.mem_of_getElem? (i := 7) rfl) ?_
      refine ev_iload_n (u3) dX11_arrives_131 rfl ?_
      obtain ⟨h3, hQ⟩ := hQ
      refine ev_iaload dX11_arrives_132 h3 ?_
      refine ev_if_lt 140 dX11_arrives_133 (by decide) (fun c3 => ?_) (fun c3 => ?_)
      · replace hQ := hQ.1 c3
        refine ev_iconst (0) dX11_arrives_140 rfl ?_
        refine ev_istore dX11_arrives_141 (Nat.le_of_ble_eq_true rfl) (ev_hw rfl) ?_
        show ev_E g m_X11_arrives 4 0 143 [some (ev_o 11 a), some (ev_i u1), some (ev_i u2), some (ev_i u3), some (ev_i 0)] [] S Q
        exact hQ
      · replace hQ := hQ.2 c3
        refine ev_iconst (1) dX11_arrives_136 rfl ?_
        refine ev_goto 141 dX11_arrives_137 (by decide) ?_
        refine ev_istore dX11_arrives_141 (Nat.le_of_ble_eq_true rfl) (ev_hw rfl) ?_
        show ev_E g m_X11_arrives 4 0 143 [some (ev_o 11 a), some (ev_i u1), some (ev_i u2), some (ev_i u3), some (ev_i 1)] [] S Q
        exact hQ
  · replace hQ := hQ.2 c1
    refine ev_aload_n (ev_o 11 a) dX11_arrives_100 rfl rfl ?_
    refine gf_11_27 dX11_arrives_101 kw_845 ?_
    refine ev_iload_n (u3) dX11_arrives_104 rfl ?_
    obtain ⟨h4, hQ⟩ := hQ
    refine ev_baload (n := 64) (by decide) dX11_arrives_105 h4 ?_
    refine ev_goto 141 dX11_arrives_106 (by decide) ?_
    refine ev_istore dX11_arrives_141 (Nat.le_of_ble_eq_true rfl) (ev_hw rfl) ?_
    show ev_E g m_X11_arrives 4 0 143 [some (ev_o 11 a), some (ev_i u1), some (ev_i u2), some (ev_i u3), some (ev_i (S.1 (a + 31) u3.toNatClampNeg))] [] S Q
    exact hQ
set_option maxHeartbeats 4000000 in
set_option maxRecDepth 100000 in
theorem sg_X11_arrives_143 {g : ev_G} {S : ev_S} {Q : ev_O → ev_S → Prop} (a : Nat) (u1 : Int32) (u2 : Int32) (u3 : Int32) (u4 : Int32) (hQ : (u4 = 0 → (
    ∀ S1 : ev_S, S1 = (ev_up S a 5 ((S.1 a 5) + 0)) → (
      ev_E g m_X11_arrives 4 0 162 [some (ev_o 11 a), some (ev_i u1), some (ev_i u2), some (ev_i u3), some (ev_i u4)] [] S1 Q))) ∧
  (¬ (u4 = 0) → (
    ∀ S2 : ev_S, S2 = (ev_up S a 5 ((S.1 a 5) + 1)) → (
      ev_E g m_X11_arrives 4 0 162 [some (ev_o 11 a), some (ev_i u1), some (ev_i u2), some (ev_i u3), some (ev_i u4)] [] S2 Q)))) : ev_E g m_X11_arrives 4 0 143 [some (ev_o 11 a), some (ev_i u1), some (ev_i u2), some (ev_i u3), some (ev_i u4)] [] S Q := by
  refine ev_aload_n (ev_o 11 a) dX11_arrives_143 rfl rfl ?_
  refine ev_dup dX11_arrives_144 rfl ?_
  refine gf_11_5 dX11_arrives_145 kw_807 ?_
  refine ev_iload (u4) dX11_arrives_148 rfl ?_
  refine ev_if_eq 157 dX11_arrives_150 (by decide) (fun c1 => ?_) (fun c1 => ?_)
  · replace hQ := hQ.1 c1
    refine ev_iconst (0) dX11_arrives_157 rfl ?_
    refine ev_iadd dX11_arrives_158 ?_
    refine pf_11_5 dX11_arrives_159 kw_807 ?_
    refine ev_sub hQ (fun S1 hS1 hQ => ?_)
    refine ev_E.goal (pc' := 162) (L' := [some (ev_o 11 a), some (ev_i u1), some (ev_i u2), some (ev_i u3), some (ev_i u4)]) (K' := []) (S' := S1) ?_ rfl rfl rfl hS1
    exact hQ
  · replace hQ := hQ.2 c1
    refine ev_iconst (1) dX11_arrives_153 rfl ?_
    refine ev_goto 158 dX11_arrives_154 (by decide) ?_
    refine ev_iadd dX11_arrives_158 ?_
    refine pf_11_5 dX11_arrives_159 kw_807 ?_
    refine ev_sub hQ (fun S2 hS2 hQ => ?_)
    refine ev_E.goal (pc' := 162) (L' := [some (ev_o 11 a), some (ev_i u1), some (ev_i u2), some (ev_i u3), some (ev_i u4)]) (K' := []) (S' := S2) ?_ rfl rfl rfl hS2
    exact hQ
set_option maxHeartbeats 4000000 in
set_option maxRecDepth 100000 in
theorem sg_X11_arrives_162 {g : ev_G} {S : ev_S} {Q : ev_O → ev_S → Prop} (a : Nat) (u1 : Int32) (u2 : Int32) (u3 : Int32) (u4 : Int32) (hQ : (vp_in u1 81) ∧ (
    ((S.1 (a + 29) u1.toNatClampNeg) = 0 → (
      (u4 = 0 → (
        (vp_in u2 2) ∧ (
          (vp_in u3 61) ∧ (
            ∀ S2 : ev_S, S2 = (ev_up S ((a_bd (a + 1) u2) + 4) u3.toNatClampNeg (S.1 (a + 22) u1.toNatClampNeg)) → (
              ∀ S3 : ev_S, S3 = (ev_up S2 ((a_bd (a + 1) u2) + 5) u3.toNatClampNeg (S2.1 (a + 23) u1.toNatClampNeg)) → (
                ev_Cv g m_X11_goesOn 3 0 [ev_o 11 a, ev_i u2] S3 (fun o S4 => o = .inl none ∧ (
                  Q (.inl none) S4)))))))) ∧
      (¬ (u4 = 0) → (
        ev_Cv g m_X11_goesOn 3 0 [ev_o 11 a, ev_i u2] S (fun o S1 => o = .inl none ∧ (
          Q (.inl none) S1)))))) ∧
    (¬ ((S.1 (a + 29) u1.toNatClampNeg) = 0) → (
      (vp_in u3 64) ∧ (
        ∀ S5 : ev_S, S5 = (ev_up S (a + 31) u3.toNatClampNeg 1) → (
          ev_Cv g m_X11_goesOn 3 0 [ev_o 11 a, ev_i u2] S5 (fun o S6 => o = .inl none ∧ (
            Q (.inl none) S6)))))))) : ev_E g m_X11_arrives 4 0 162 [some (ev_o 11 a), some (ev_i u1), some (ev_i u2), some (ev_i u3), some (ev_i u4)] [] S Q := by
  refine ev_aload_n (ev_o 11 a) dX11_arrives_162 rfl rfl ?_
  refine gf_11_25 dX11_arrives_163 kw_841 ?_
  refine ev_iload_n (u1) dX11_arrives_166 rfl ?_
  obtain ⟨h1, hQ⟩ := hQ
  refine ev_baload (n := 81) (by decide) dX11_arrives_167 h1 ?_
  refine ev_if_eq 181 dX11_arrives_168 (by decide) (fun c1 => ?_) (fun c1 => ?_)
  · replace hQ := hQ.1 c1
    refine ev_iload (u4) dX11_arrives_181 rfl ?_
    refine ev_if_ne 220 dX11_arrives_183 (by decide) (fun c2 => ?_) (fun c2 => ?_)
    · replace hQ := hQ.2 c2
      refine ev_aload_n (ev_o 11 a) dX11_arrives_220 rfl rfl ?_
      refine ev_iload_n (u2) dX11_arrives_221 rfl ?_
      refine ev_cV mv_X11_goesOn 3 0 11 [ev_i u2] [] dX11_arrives_222 kw_1380 rfl (by decide) rfl (by decide) (by decide) (Nat.le_of_ble_eq_true rfl) hQ ?_ rfl
      rintro o S1 ⟨rfl, hQ⟩
      show ev_E g m_X11_arrives 4 0 225 [some (ev_o 11 a), some (ev_i u1), some (ev_i u2), some (ev_i u3), some (ev_i u4)] [] S1 Q
      exact ev_return dX11_arrives_225 rfl hQ
    · replace hQ := hQ.1 c2
      refine ev_aload_n (ev_o 11 a) dX11_arrives_186 rfl rfl ?_
      refine gf_11_11 dX11_arrives_187 kw_818 ?_
      refine ev_iload_n (u2) dX11_arrives_190 rfl ?_
      obtain ⟨h2, hQ⟩ := hQ
      refine ev_aalB dX11_arrives_191 h2 ?_
      show ev_E g m_X11_arrives 4 0 192 [some (ev_o 11 a), some (ev_i u1), some (ev_i u2), some (ev_i u3), some (ev_i u4)] [ev_o 10 (a_bd (a + 1) u2)] S Q
      refine gn_10_3 dX11_arrives_192 (List.mem_of_getElem? (i := 7) rfl) ?_
      refine ev_iload_n (u3) dX11_arrives_195 rfl ?_
      refine ev_aload_n (ev_o 11 a) dX11_arrives_196 rfl rfl ?_
      refine gf_11_18 dX11_arrives_197 kw_831 ?_
      refine ev_iload_n (u1) dX11_arrives_200 rfl ?_
      refine ev_iaload dX11_arrives_201 h1 ?_
      obtain ⟨h3, hQ⟩ := hQ
      refine ev_iastore dX11_arrives_202 h3 ?_
      refine ev_sub hQ (fun S2 hS2 hQ => ?_)
      refine ev_E.goal (pc' := 203) (L' := [some (ev_o 11 a), some (ev_i u1), some (ev_i u2), some (ev_i u3), some (ev_i u4)]) (K' := []) (S' := S2) ?_ rfl rfl rfl hS2
      refine ev_aload_n (ev_o 11 a) dX11_arrives_203 rfl rfl ?_
      refine gf_11_11 dX11_arrives_204 kw_818 ?_
      refine ev_iload_n (u2) dX11_arrives_207 rfl ?_
      refine ev_aalB dX11_arrives_208 h2 ?_
      show ev_E g m_X11_arrives 4 0 209 [some (ev_o 11 a), some (ev_i u1), some (ev_i u2), some (ev_i u3), some (ev_i u4)] [ev_o 10 (a_bd (a + 1) u2)] S2 Q
      refine gn_10_4 dX11_arrives_209 (List.mem_of_getElem? (i := 8) rfl) ?_
      refine ev_iload_n (u3) dX11_arrives_212 rfl ?_
      refine ev_aload_n (ev_o 11 a) dX11_arrives_213 rfl rfl ?_
      refine gf_11_19 dX11_arrives_214 kw_833 ?_
      refine ev_iload_n (u1) dX11_arrives_217 rfl ?_
      refine ev_iaload dX11_arrives_218 h1 ?_
      refine ev_iastore dX11_arrives_219 h3 ?_
      refine ev_sub hQ (fun S3 hS3 hQ => ?_)
      refine ev_E.goal (pc' := 220) (L' := [some (ev_o 11 a), some (ev_i u1), some (ev_i u2), some (ev_i u3), some (ev_i u4)]) (K' := []) (S' := S3) ?_ rfl rfl rfl hS3
      refine ev_aload_n (ev_o 11 a) dX11_arrives_220 rfl rfl ?_
      refine ev_iload_n (u2) dX11_arrives_221 rfl ?_
      refine ev_cV mv_X11_goesOn 3 0 11 [ev_i u2] [] dX11_arrives_222 kw_1380 rfl (by decide) rfl (by decide) (by decide) (Nat.le_of_ble_eq_true rfl) hQ ?_ rfl
      rintro o S4 ⟨rfl, hQ⟩
      show ev_E g m_X11_arrives 4 0 225 [some (ev_o 11 a), some (ev_i u1), some (ev_i u2), some (ev_i u3), some (ev_i u4)] [] S4 Q
      exact ev_return dX11_arrives_225 rfl hQ
  · replace hQ := hQ.2 c1
    refine ev_aload_n (ev_o 11 a) dX11_arrives_171 rfl rfl ?_
    refine gf_11_27 dX11_arrives_172 kw_845 ?_
    refine ev_iload_n (u3) dX11_arrives_175 rfl ?_
    refine ev_iconst (1) dX11_arrives_176 rfl ?_
    obtain ⟨h4, hQ⟩ := hQ
    refine ev_bastore (n := 64) (by decide) dX11_arrives_177 h4 rfl ?_
    refine ev_sub hQ (fun S5 hS5 hQ => ?_)
    refine ev_E.goal (pc' := 178) (L' := [some (ev_o 11 a), some (ev_i u1), some (ev_i u2), some (ev_i u3), some (ev_i u4)]) (K' := []) (S' := S5) ?_ rfl rfl rfl hS5
    refine ev_goto 220 dX11_arrives_178 (by decide) ?_
    refine ev_aload_n (ev_o 11 a) dX11_arrives_220 rfl rfl ?_
    refine ev_iload_n (u2) dX11_arrives_221 rfl ?_
    refine ev_cV mv_X11_goesOn 3 0 11 [ev_i u2] [] dX11_arrives_222 kw_1380 rfl (by decide) rfl (by decide) (by decide) (Nat.le_of_ble_eq_true rfl) hQ ?_ rfl
    rintro o S6 ⟨rfl, hQ⟩
    show ev_E g m_X11_arrives 4 0 225 [some (ev_o 11 a), some (ev_i u1), some (ev_i u2), some (ev_i u3), some (ev_i u4)] [] S6 Q
    exact ev_return dX11_arrives_225 rfl hQ
