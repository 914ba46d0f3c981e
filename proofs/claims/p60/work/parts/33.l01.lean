set_option maxHeartbeats 4000000 in
set_option maxRecDepth 100000 in
theorem sg_X11_passes_0 {g : ev_G} {S : ev_S} {Q : ev_O → ev_S → Prop} (a : Nat) (hQ : ∀ S1 : ev_S, S1 = (ev_up S a 2 ((S.1 a 2) + 1)) → (
    ev_E g m_X11_passes 5 0 17 [some (ev_o 11 a), some (ev_i (S.1 a 6)), some (ev_i 1), none] [] S1 Q)) : ev_Cv g m_X11_passes 5 0 [ev_o 11 a] S Q := by
  refine ev_enter (by decide) rfl rfl (Nat.le_of_ble_eq_true rfl) ?_
  show ev_E g m_X11_passes 5 0 0 [some (ev_o 11 a), none, none, none] [] S Q
  refine ev_aload_n (ev_o 11 a) dX11_passes_0 rfl rfl ?_
  refine ev_dup dX11_passes_1 rfl ?_
  refine gf_11_2 dX11_passes_2 kw_801 ?_
  refine ev_iconst (1) dX11_passes_5 rfl ?_
  refine ev_iadd dX11_passes_6 ?_
  refine pf_11_2 dX11_passes_7 kw_801 ?_
  refine ev_sub hQ (fun S1 hS1 hQ => ?_)
  refine ev_E.goal (pc' := 10) (L' := [some (ev_o 11 a), none, none, none]) (K' := []) (S' := S1) ?_ rfl rfl rfl hS1
  refine ev_aload_n (ev_o 11 a) dX11_passes_10 rfl rfl ?_
  refine gf_11_6 dX11_passes_11 kw_809 ?_
  refine ev_ke (j_rk hS1 (Or.inr (by decide))) ?_
  refine ev_istore_n dX11_passes_14 (Nat.le_of_ble_eq_true rfl) (ev_hw rfl) ?_
  show ev_E g m_X11_passes 5 0 15 [some (ev_o 11 a), some (ev_i (S.1 a 6)), none, none] [] S1 Q
  refine ev_iconst (1) dX11_passes_15 rfl ?_
  refine ev_istore_n dX11_passes_16 (Nat.le_of_ble_eq_true rfl) (ev_hw rfl) ?_
  show ev_E g m_X11_passes 5 0 17 [some (ev_o 11 a), some (ev_i (S.1 a 6)), some (ev_i 1), none] [] S1 Q
  exact hQ
set_option maxHeartbeats 4000000 in
set_option maxRecDepth 100000 in
theorem sg_X11_passes_17 {g : ev_G} {S : ev_S} {Q : ev_O → ev_S → Prop} (a : Nat) (u1 : Int32) (u2 : Int32) (hQ : (u1 < u2 → (
    ev_E g m_X11_passes 5 0 108 [some (ev_o 11 a), none, some (ev_i 0), none] [] S Q)) ∧
  (¬ (u1 < u2) → (
    ev_E g m_X11_passes 5 0 24 [some (ev_o 11 a), some (ev_i u1), some (ev_i u2), some (ev_i 0)] [] S Q))) : ev_E g m_X11_passes 5 0 17 [some (ev_o 11 a), some (ev_i u1), some (ev_i u2), none] [] S Q := by
  refine ev_iload_n (u2) dX11_passes_17 rfl ?_
  refine ev_iload_n (u1) dX11_passes_18 rfl ?_
  refine ev_icmp_gt 106 dX11_passes_19 (by decide) (fun c1 => ?_) (fun c1 => ?_)
  · replace hQ := hQ.1 c1
    refine ev_iconst (0) dX11_passes_106 rfl ?_
    refine ev_istore_n dX11_passes_107 (Nat.le_of_ble_eq_true rfl) (ev_hw rfl) ?_
    show ev_E g m_X11_passes 5 0 108 [some (ev_o 11 a), some (ev_i u1), some (ev_i 0), none] [] S Q
    refine ev_fgm [true, false, true, false] ?_
    exact hQ
  · replace hQ := hQ.2 c1
    refine ev_iconst (0) dX11_passes_22 rfl ?_
    refine ev_istore_n dX11_passes_23 (Nat.le_of_ble_eq_true rfl) (ev_hw rfl) ?_
    show ev_E g m_X11_passes 5 0 24 [some (ev_o 11 a), some (ev_i u1), some (ev_i u2), some (ev_i 0)] [] S Q
    exact hQ
set_option maxHeartbeats 4000000 in
set_option maxRecDepth 100000 in
theorem sg_X11_passes_108 {g : ev_G} {S : ev_S} {Q : ev_O → ev_S → Prop} (a : Nat) (u2 : Int32) (hQ : ((2 * (S.1 a 3)) ≤ u2 → (
    Q (.inl none) S)) ∧
  (¬ ((2 * (S.1 a 3)) ≤ u2) → (
    ev_E g m_X11_passes 5 0 120 [some (ev_o 11 a), none, some (ev_i u2), some (ev_i 0)] [] S Q))) : ev_E g m_X11_passes 5 0 108 [some (ev_o 11 a), none, some (ev_i u2), none] [] S Q := by
  refine ev_iload_n (u2) dX11_passes_108 rfl ?_
  refine ev_iconst (2) dX11_passes_109 rfl ?_
  refine ev_aload_n (ev_o 11 a) dX11_passes_110 rfl rfl ?_
  refine gf_11_3 dX11_passes_111 kw_803 ?_
  refine ev_imul dX11_passes_114 ?_
  refine ev_icmp_ge 256 dX11_passes_115 (by decide) (fun c1 => ?_) (fun c1 => ?_)
  · replace hQ := hQ.1 c1
    exact ev_return dX11_passes_256 rfl hQ
  · replace hQ := hQ.2 c1
    refine ev_iconst (0) dX11_passes_118 rfl ?_
    refine ev_istore_n dX11_passes_119 (Nat.le_of_ble_eq_true rfl) (ev_hw rfl) ?_
    show ev_E g m_X11_passes 5 0 120 [some (ev_o 11 a), none, some (ev_i u2), some (ev_i 0)] [] S Q
    exact hQ
set_option maxHeartbeats 4000000 in
set_option maxRecDepth 100000 in
theorem sg_X11_passes_24 {g : ev_G} {S : ev_S} {Q : ev_O → ev_S → Prop} (a : Nat) (u1 : Int32) (u2 : Int32) (u3 : Int32) (hQ : ((S.1 a 4) ≤ u3 → (
    ev_E g m_X11_passes 5 0 17 [some (ev_o 11 a), some (ev_i u1), some (ev_i (u2 + 1)), none] [] S Q)) ∧
  (¬ ((S.1 a 4) ≤ u3) → (
    (vp_in u3 81) ∧ (
      ((S.1 (a + 24) u3.toNatClampNeg) = 1 → (
        ((S.1 (a + 26) u3.toNatClampNeg) = u2 → (
          (vp_in ((12 * (S.1 (a + 20) u3.toNatClampNeg)) + (ev_rem ((S.1 a 2) / 30) 12)) 48) ∧ (
            ((S.1 (a + 18) ((12 * (S.1 (a + 20) u3.toNatClampNeg)) + (ev_rem ((S.1 a 2) / 30) 12)).toNatClampNeg) = 9 → (
              ev_E g m_X11_passes 5 0 24 [some (ev_o 11 a), some (ev_i u1), some (ev_i u2), some (ev_i (u3 + 1))] [] S Q)) ∧
            (¬ ((S.1 (a + 18) ((12 * (S.1 (a + 20) u3.toNatClampNeg)) + (ev_rem ((S.1 a 2) / 30) 12)).toNatClampNeg) = 9) → (
              ∀ S1 : ev_S, S1 = (ev_up S (a + 27) u3.toNatClampNeg ((S.1 (a + 27) u3.toNatClampNeg) - 1)) → (
                (((S.1 (a + 27) u3.toNatClampNeg) - 1) = 0 → (
                  ev_Cv g m_X11_arrives 4 0 [ev_o 11 a, ev_i u3] S1 (fun o S2 => o = .inl none ∧ (
                    ev_E g m_X11_passes 5 0 24 [some (ev_o 11 a), some (ev_i u1), some (ev_i u2), some (ev_i (u3 + 1))] [] S2 Q)))) ∧
                (¬ (((S.1 (a + 27) u3.toNatClampNeg) - 1) = 0) → (
                  ev_E g m_X11_passes 5 0 24 [some (ev_o 11 a), some (ev_i u1), some (ev_i u2), some (ev_i (u3 + 1))] [] S1 Q)))))))) ∧
        (¬ ((S.1 (a + 26) u3.toNatClampNeg) = u2) → (
          ev_E g m_X11_passes 5 0 24 [some (ev_o 11 a), some (ev_i u1), some (ev_i u2), some (ev_i (u3 + 1))] [] S Q)))) ∧
      (¬ ((S.1 (a + 24) u3.toNatClampNeg) = 1) → (
        ev_E g m_X11_passes 5 0 24 [some (ev_o 11 a), some (ev_i u1), some (ev_i u2), some (ev_i (u3 + 1))] [] S Q)))))) : ev_E g m_X11_passes 5 0 24 [some (ev_o 11 a), some (ev_i u1), some (ev_i u2), some (ev_i u3)] [] S Q := by
  refine ev_iload_n (u3) dX11_passes_24 rfl ?_
  refine ev_aload_n (ev_o 11 a) dX11_passes_25 rfl rfl ?_
  refine gf_11_4 dX11_passes_26 kw_805 ?_
  refine ev_icmp_ge 100 dX11_passes_29 (by decide) (fun c1 => ?_) (fun c1 => ?_)
  · replace hQ := hQ.1 c1
    refine ev_iinc u2 (1) dX11_passes_100 rfl (by decide) (ev_hw rfl) ?_
    show ev_E g m_X11_passes 5 0 103 [some (ev_o 11 a), some (ev_i u1), some (ev_i (u2 + 1)), some (ev_i u3)] [] S Q
    refine ev_goto 17 dX11_passes_103 (by decide) ?_
    refine ev_fgm [true, true, true, false] ?_
    exact hQ
  · replace hQ := hQ.2 c1
    refine ev_aload_n (ev_o 11 a) dX11_passes_32 rfl rfl ?_
    refine gf_11_20 dX11_passes_33 kw_835 ?_
    refine ev_iload_n (u3) dX11_passes_36 rfl ?_
    obtain ⟨h1, hQ⟩ := hQ
    refine ev_iaload dX11_passes_37 h1 ?_
    refine ev_iconst (1) dX11_passes_38 rfl ?_
    refine ev_icmp_ne 94 dX11_passes_39 (by decide) (fun c2 => ?_) (fun c2 => ?_)
    · replace hQ := hQ.2 c2
      refine ev_iinc u3 (1) dX11_passes_94 rfl (by decide) (ev_hw rfl) ?_
      show ev_E g m_X11_passes 5 0 97 [some (ev_o 11 a), some (ev_i u1), some (ev_i u2), some (ev_i (u3 + 1))] [] S Q
      refine ev_goto 24 dX11_passes_97 (by decide) ?_
      exact hQ
    · replace hQ := hQ.1 c2
      refine ev_aload_n (ev_o 11 a) dX11_passes_42 rfl rfl ?_
      refine gf_11_22 dX11_passes_43 kw_838 ?_
      refine ev_iload_n (u3) dX11_passes_46 rfl ?_
      refine ev_iaload dX11_passes_47 h1 ?_
      refine ev_iload_n (u2) dX11_passes_48 rfl ?_
      refine ev_icmp_ne 94 dX11_passes_49 (by decide) (fun c3 => ?_) (fun c3 => ?_)
      · replace hQ := hQ.2 c3
        refine ev_iinc u3 (1) dX11_passes_94 rfl (by decide) (ev_hw rfl) ?_
        show ev_E g m_X11_passes 5 0 97 [some (ev_o 11 a), some (ev_i u1), some (ev_i u2), some (ev_i (u3 + 1))] [] S Q
        refine ev_goto 24 dX11_passes_97 (by decide) ?_
        exact hQ
      · replace hQ := hQ.1 c3
        refine ev_aload_n (ev_o 11 a) dX11_passes_52 rfl rfl ?_
        refine ev_aload_n (ev_o 11 a) dX11_passes_53 rfl rfl ?_
        refine gf_11_16 dX11_passes_54 kw_828 ?_
        refine ev_iload_n (u3) dX11_passes_57 rfl ?_
        refine ev_iaload dX11_passes_58 h1 ?_
        obtain ⟨h2, hQ⟩ := hQ
        refine ev_fV mv_X11_depth 2 11 [ev_i (S.1 (a + 20) u3.toNatClampNeg)] [] dX11_passes_59 kw_1375 rfl (by decide) rfl (by decide) (Nat.le_of_ble_eq_true rfl) (sp_X11_depth a (S.1 (a + 20) u3.toNatClampNeg) h2) ?_ rfl
        refine ev_bipush (9) dX11_passes_62 (by decide) ?_
        refine ev_icmp_ne 70 dX11_passes_64 (by decide) (fun c4 => ?_) (fun c4 => ?_)
        · replace hQ := hQ.2 c4
          refine ev_aload_n (ev_o 11 a) dX11_passes_70 rfl rfl ?_
          refine gf_11_23 dX11_passes_71 kw_839 ?_
          refine ev_iload_n (u3) dX11_passes_74 rfl ?_
          refine ev_dup2 dX11_passes_75 rfl rfl ?_
          refine ev_iaload dX11_passes_76 h1 ?_
          refine ev_iconst (1) dX11_passes_77 rfl ?_
          refine ev_isub dX11_passes_78 ?_
          refine ev_iastore dX11_passes_79 h1 ?_
          refine ev_sub hQ (fun S1 hS1 hQ => ?_)
          refine ev_E.goal (pc' := 80) (L' := [some (ev_o 11 a), some (ev_i u1), some (ev_i u2), some (ev_i u3)]) (K' := []) (S' := S1) ?_ rfl rfl rfl hS1
          refine ev_aload_n (ev_o 11 a) dX11_passes_80 rfl rfl ?_
          refine gf_11_23 dX11_passes_81 kw_839 ?_
          refine ev_iload_n (u3) dX11_passes_84 rfl ?_
          refine ev_iaload dX11_passes_85 h1 ?_
          refine ev_ke (j_rs hS1) ?_
          refine ev_if_ne 94 dX11_passes_86 (by decide) (fun c5 => ?_) (fun c5 => ?_)
          · replace hQ := hQ.2 c5
            refine ev_iinc u3 (1) dX11_passes_94 rfl (by decide) (ev_hw rfl) ?_
            show ev_E g m_X11_passes 5 0 97 [some (ev_o 11 a), some (ev_i u1), some (ev_i u2), some (ev_i (u3 + 1))] [] S1 Q
            refine ev_goto 24 dX11_passes_97 (by decide) ?_
            exact hQ
          · replace hQ := hQ.1 c5
            refine ev_aload_n (ev_o 11 a) dX11_passes_89 rfl rfl ?_
            refine ev_iload_n (u3) dX11_passes_90 rfl ?_
            refine ev_cV mv_X11_arrives 4 0 11 [ev_i u3] [] dX11_passes_91 kw_1376 rfl (by decide) rfl (by decide) (by decide) (Nat.le_of_ble_eq_true rfl) hQ ?_ rfl
            rintro o S2 ⟨rfl, hQ⟩
            show ev_E g m_X11_passes 5 0 94 [some (ev_o 11 a), some (ev_i u1), some (ev_i u2), some (ev_i u3)] [] S2 Q
            refine ev_iinc u3 (1) dX11_passes_94 rfl (by decide) (ev_hw rfl) ?_
            show ev_E g m_X11_passes 5 0 97 [some (ev_o 11 a), some (ev_i u1), some (ev_i u2), some (ev_i (u3 + 1))] [] S2 Q
            refine ev_goto 24 dX11_passes_97 (by decide) ?_
            exact hQ
        · replace hQ := hQ.1 c4
          refine ev_goto 94 dX11_passes_67 (by decide) ?_
          refine ev_iinc u3 (1) dX11_passes_94 rfl (by decide) (ev_hw rfl) ?_
          show ev_E g m_X11_passes 5 0 97 [some (ev_o 11 a), some (ev_i u1), some (ev_i u2), some (ev_i (u3 + 1))] [] S Q
          refine ev_goto 24 dX11_passes_97 (by decide) ?_
          exact hQ
set_option maxHeartbeats 4000000 in
set_option maxRecDepth 100000 in
theorem sg_X11_passes_120 {g : ev_G} {S : ev_S} {Q : ev_O → ev_S → Prop} (a : Nat) (u2 : Int32) (u3 : Int32) (hQ : ((S.1 a 4) ≤ u3 → (
    ev_E g m_X11_passes 5 0 108 [some (ev_o 11 a), none, some (ev_i (u2 + 1)), none] [] S Q)) ∧
  (¬ ((S.1 a 4) ≤ u3) → (
    (vp_in ((12 * (u2 / 2)) + (ev_rem ((S.1 a 2) / 30) 12)) 48) ∧ (
      (9 ≤ (S.1 (a + 18) ((12 * (u2 / 2)) + (ev_rem ((S.1 a 2) / 30) 12)).toNatClampNeg) → (
        ev_E g m_X11_passes 5 0 108 [some (ev_o 11 a), none, some (ev_i (u2 + 1)), none] [] S Q)) ∧
      (¬ (9 ≤ (S.1 (a + 18) ((12 * (u2 / 2)) + (ev_rem ((S.1 a 2) / 30) 12)).toNatClampNeg)) → (
        (vp_in u3 81) ∧ (
          ((S.1 (a + 24) u3.toNatClampNeg) = 0 → (
            ((S.1 (a + 20) u3.toNatClampNeg) = (u2 / 2) → (
              ((S.1 (a + 19) u3.toNatClampNeg) = (ev_rem u2 2) → (
                (vp_in u2 8) ∧ (
                  ((S.1 (a + 17) u2.toNatClampNeg) = 0 → (
                    ev_E g m_X11_passes 5 0 120 [some (ev_o 11 a), none, some (ev_i u2), some (ev_i (u3 + 1))] [] S Q)) ∧
                  (¬ ((S.1 (a + 17) u2.toNatClampNeg) = 0) → (
                    ∀ S1 : ev_S, S1 = (ev_up S (a + 17) u2.toNatClampNeg ((S.1 (a + 17) u2.toNatClampNeg) - 1)) → (
                      ∀ S2 : ev_S, S2 = (ev_up S1 a 6 ((S.1 a 6) + 1)) → (
                        ∀ S3 : ev_S, S3 = (ev_up S2 (a + 24) u3.toNatClampNeg 1) → (
                          ∀ S4 : ev_S, S4 = (ev_up S3 (a + 26) u3.toNatClampNeg ((S.1 a 6) + 1)) → (
                            (vp_in (u2 / 2) 4) ∧ (
                              (vp_in ((12 * (u2 / 2)) + (ev_rem ((S4.1 a 2) / 30) 12)) 48) ∧ (
                                ∀ S5 : ev_S, S5 = (ev_up S4 (a + 27) u3.toNatClampNeg ((S.1 (a + 16) (u2 / 2).toNatClampNeg) + (S.1 (a + 18) ((12 * (u2 / 2)) + (ev_rem ((S4.1 a 2) / 30) 12)).toNatClampNeg))) → (
                                  ev_E g m_X11_passes 5 0 120 [some (ev_o 11 a), none, some (ev_i u2), some (ev_i (u3 + 1))] [] S5 Q)))))))))))) ∧
              (¬ ((S.1 (a + 19) u3.toNatClampNeg) = (ev_rem u2 2)) → (
                ev_E g m_X11_passes 5 0 120 [some (ev_o 11 a), none, some (ev_i u2), some (ev_i (u3 + 1))] [] S Q)))) ∧
            (¬ ((S.1 (a + 20) u3.toNatClampNeg) = (u2 / 2)) → (
              ev_E g m_X11_passes 5 0 120 [some (ev_o 11 a), none, some (ev_i u2), some (ev_i (u3 + 1))] [] S Q)))) ∧
          (¬ ((S.1 (a + 24) u3.toNatClampNeg) = 0) → (
            ev_E g m_X11_passes 5 0 120 [some (ev_o 11 a), none, some (ev_i u2), some (ev_i (u3 + 1))] [] S Q))))))))) : ev_E g m_X11_passes 5 0 120 [some (ev_o 11 a), none, some (ev_i u2), some (ev_i u3)] [] S Q := by
  refine ev_iload_n (u3) dX11_passes_120 rfl ?_
  refine ev_aload_n (ev_o 11 a) dX11_passes_121 rfl rfl ?_
  refine gf_11_4 dX11_passes_122 kw_805 ?_
  refine ev_icmp_ge 250 dX11_passes_125 (by decide) (fun c1 => ?_) (fun c1 => ?_)
  · replace hQ := hQ.1 c1
    refine ev_iinc u2 (1) dX11_passes_250 rfl (by decide) (ev_hw rfl) ?_
    show ev_E g m_X11_passes 5 0 253 [some (ev_o 11 a), none, some (ev_i (u2 + 1)), some (ev_i u3)] [] S Q
    refine ev_goto 108 dX11_passes_253 (by decide) ?_
    refine ev_fgm [true, false, true, false] ?_
    exact hQ
  · replace hQ := hQ.2 c1
    refine ev_aload_n (ev_o 11 a) dX11_passes_128 rfl rfl ?_
    refine ev_iload_n (u2) dX11_passes_129 rfl ?_
    refine ev_iconst (2) dX11_passes_130 rfl ?_
    refine ev_idiv dX11_passes_131 (by decide) ?_
    obtain ⟨h1, hQ⟩ := hQ
    refine ev_fV mv_X11_depth 2 11 [ev_i (u2 / 2)] [] dX11_passes_132 kw_1375 rfl (by decide) rfl (by decide) (Nat.le_of_ble_eq_true rfl) (sp_X11_depth a (u2 / 2) h1) ?_ rfl
    refine ev_bipush (9) dX11_passes_135 (by decide) ?_
    refine ev_icmp_ge 250 dX11_passes_137 (by decide) (fun c2 => ?_) (fun c2 => ?_)
    · replace hQ := hQ.1 c2
      refine ev_iinc u2 (1) dX11_passes_250 rfl (by decide) (ev_hw rfl) ?_
      show ev_E g m_X11_passes 5 0 253 [some (ev_o 11 a), none, some (ev_i (u2 + 1)), some (ev_i u3)] [] S Q
      refine ev_goto 108 dX11_passes_253 (by decide) ?_
      refine ev_fgm [true, false, true, false] ?_
      exact hQ
    · replace hQ := hQ.2 c2
      refine ev_aload_n (ev_o 11 a) dX11_passes_140 rfl rfl ?_
      refine gf_11_20 dX11_passes_141 kw_835 ?_
      refine ev_iload_n (u3) dX11_passes_144 rfl ?_
      obtain ⟨h2, hQ⟩ := hQ
      refine ev_iaload dX11_passes_145 h2 ?_
      refine ev_if_ne 244 dX11_passes_146 (by decide) (fun c3 => ?_) (fun c3 => ?_)
      · replace hQ := hQ.2 c3
        refine ev_iinc u3 (1) dX11_passes_244 rfl (by decide) (ev_hw rfl) ?_
        show ev_E g m_X11_passes 5 0 247 [some (ev_o 11 a), none, some (ev_i u2), some (ev_i (u3 + 1))] [] S Q
        refine ev_goto 120 dX11_passes_247 (by decide) ?_
        exact hQ
      · replace hQ := hQ.1 c3
        refine ev_aload_n (ev_o 11 a) dX11_passes_149 rfl rfl ?_
        refine gf_11_16 dX11_passes_150 kw_828 ?_
        refine ev_iload_n (u3) dX11_passes_153 rfl ?_
        refine ev_iaload dX11_passes_154 h2 ?_
        refine ev_iload_n (u2) dX11_passes_155 rfl ?_
        refine ev_iconst (2) dX11_passes_156 rfl ?_
        refine ev_idiv dX11_passes_157 (by decide) ?_
        refine ev_icmp_ne 244 dX11_passes_158 (by decide) (fun c4 => ?_) (fun c4 => ?_)
        · replace hQ := hQ.2 c4
          refine ev_iinc u3 (1) dX11_passes_244 rfl (by decide) (ev_hw rfl) ?_
          show ev_E g m_X11_passes 5 0 247 [some (ev_o 11 a), none, some (ev_i u2), some (ev_i (u3 + 1))] [] S Q
          refine ev_goto 120 dX11_passes_247 (by decide) ?_
          exact hQ
        · replace hQ := hQ.1 c4
          refine ev_aload_n (ev_o 11 a) dX11_passes_161 rfl rfl ?_
          refine gf_11_15 dX11_passes_162 kw_826 ?_
          refine ev_iload_n (u3) dX11_passes_165 rfl ?_
          refine ev_iaload dX11_passes_166 h2 ?_
          refine ev_iload_n (u2) dX11_passes_167 rfl ?_
          refine ev_iconst (2) dX11_passes_168 rfl ?_
          refine ev_irem dX11_passes_169 (by decide) ?_
          refine ev_icmp_ne 244 dX11_passes_170 (by decide) (fun c5 => ?_) (fun c5 => ?_)
          · replace hQ := hQ.2 c5
            refine ev_iinc u3 (1) dX11_passes_244 rfl (by decide) (ev_hw rfl) ?_
            show ev_E g m_X11_passes 5 0 247 [some (ev_o 11 a), none, some (ev_i u2), some (ev_i (u3 + 1))] [] S Q
            refine ev_goto 120 dX11_passes_247 (by decide) ?_
            exact hQ
          · replace hQ := hQ.1 c5
            refine ev_aload_n (ev_o 11 a) dX11_passes_173 rfl rfl ?_
            refine gf_11_13 dX11_passes_174 kw_822 ?_
            refine ev_iload_n (u2) dX11_passes_177 rfl ?_
            obtain ⟨h3, hQ⟩ := hQ
            refine ev_iaload dX11_passes_178 h3 ?_
            refine ev_if_ne 185 dX11_passes_179 (by decide) (fun c6 => ?_) (fun c6 => ?_)
            · replace hQ := hQ.2 c6
              refine ev_aload_n (ev_o 11 a) dX11_passes_185 rfl rfl ?_
              refine gf_11_13 dX11_passes_186 kw_822 ?_
              refine ev_iload_n (u2) dX11_passes_189 rfl ?_
              refine ev_dup2 dX11_passes_190 rfl rfl ?_
              refine ev_iaload dX11_passes_191 h3 ?_
              refine ev_iconst (1) dX11_passes_192 rfl ?_
              refine ev_isub dX11_passes_193 ?_
              refine ev_iastore dX11_passes_194 h3 ?_
              refine ev_sub hQ (fun S1 hS1 hQ => ?_)
              refine ev_E.goal (pc' := 195) (L' := [some (ev_o 11 a), none, some (ev_i u2), some (ev_i u3)]) (K' := []) (S' := S1) ?_ rfl rfl rfl hS1
              refine ev_aload_n (ev_o 11 a) dX11_passes_195 rfl rfl ?_
              refine ev_dup dX11_passes_196 rfl ?_
              refine gf_11_6 dX11_passes_197 kw_809 ?_
              refine ev_ke (j_rk hS1 (Or.inl (by omega))) ?_
              refine ev_iconst (1) dX11_passes_200 rfl ?_
              refine ev_iadd dX11_passes_201 ?_
              refine pf_11_6 dX11_passes_202 kw_809 ?_
              refine ev_sub hQ (fun S2 hS2 hQ => ?_)
              refine ev_E.goal (pc' := 205) (L' := [some (ev_o 11 a), none, some (ev_i u2), some (ev_i u3)]) (K' := []) (S' := S2) ?_ rfl rfl rfl hS2
              refine ev_aload_n (ev_o 11 a) dX11_passes_205 rfl rfl ?_
              refine gf_11_20 dX11_passes_206 kw_835 ?_
              refine ev_iload_n (u3) dX11_passes_209 rfl ?_
              refine ev_iconst (1) dX11_passes_210 rfl ?_
              refine ev_iastore dX11_passes_211 h2 ?_
              refine ev_sub hQ (fun S3 hS3 hQ => ?_)
              refine ev_E.goal (pc' := 212) (L' := [some (ev_o 11 a), none, some (ev_i u2), some (ev_i u3)]) (K' := []) (S' := S3) ?_ rfl rfl rfl hS3
              refine ev_aload_n (ev_o 11 a) dX11_passes_212 rfl rfl ?_
              refine gf_11_22 dX11_passes_213 kw_838 ?_
              refine ev_iload_n (u3) dX11_passes_216 rfl ?_
              refine ev_aload_n (ev_o 11 a) dX11_passes_217 rfl rfl ?_
              refine gf_11_6 dX11_passes_218 kw_809 ?_
              refine ev_ke ((j_rk hS3 (Or.inl (by omega))).trans (j_rs hS2)) ?_
              refine ev_iastore dX11_passes_221 h2 ?_
              refine ev_sub hQ (fun S4 hS4 hQ => ?_)
              refine ev_E.goal (pc' := 222) (L' := [some (ev_o 11 a), none, some (ev_i u2), some (ev_i u3)]) (K' := []) (S' := S4) ?_ rfl rfl rfl hS4
              refine ev_aload_n (ev_o 11 a) dX11_passes_222 rfl rfl ?_
              refine gf_11_23 dX11_passes_223 kw_839 ?_
              refine ev_iload_n (u3) dX11_passes_226 rfl ?_
              refine ev_aload_n (ev_o 11 a) dX11_passes_227 rfl rfl ?_
              refine gf_11_12 dX11_passes_228 kw_820 ?_
              refine ev_iload_n (u2) dX11_passes_231 rfl ?_
              refine ev_iconst (2) dX11_passes_232 rfl ?_
              refine ev_idiv dX11_passes_233 (by decide) ?_
              obtain ⟨h4, hQ⟩ := hQ
              refine ev_iaload dX11_passes_234 h4 ?_
              refine ev_ke ((((j_rk hS4 (Or.inl (by omega))).trans (j_rk hS3 (Or.inl (by omega)))).trans (j_rk hS2 (Or.inl (by omega)))).trans (j_rk hS1 (Or.inl (by omega)))) ?_
              refine ev_aload_n (ev_o 11 a) dX11_passes_235 rfl rfl ?_
              refine ev_iload_n (u2) dX11_passes_236 rfl ?_
              refine ev_iconst (2) dX11_passes_237 rfl ?_
              refine ev_idiv dX11_passes_238 (by decide) ?_
              obtain ⟨h5, hQ⟩ := hQ
              refine ev_fV mv_X11_depth 2 11 [ev_i (u2 / 2)] [ev_i (S.1 (a + 16) (u2 / 2).toNatClampNeg), ev_i u3, ev_y 81 (a + 27)] dX11_passes_239 kw_1375 rfl (by decide) rfl (by decide) (Nat.le_of_ble_eq_true rfl) (sp_X11_depth a (u2 / 2) h5) ?_ rfl
              refine ev_ke ((((j_rk hS4 (Or.inl (by omega))).trans (j_rk hS3 (Or.inl (by omega)))).trans (j_rk hS2 (Or.inl (by omega)))).trans (j_rk hS1 (Or.inl (by omega)))) ?_
              refine ev_iadd dX11_passes_242 ?_
              refine ev_iastore dX11_passes_243 h2 ?_
              refine ev_sub hQ (fun S5 hS5 hQ => ?_)
              refine ev_E.goal (pc' := 244) (L' := [some (ev_o 11 a), none, some (ev_i u2), some (ev_i u3)]) (K' := []) (S' := S5) ?_ rfl rfl rfl hS5
              refine ev_iinc u3 (1) dX11_passes_244 rfl (by decide) (ev_hw rfl) ?_
              show ev_E g m_X11_passes 5 0 247 [some (ev_o 11 a), none, some (ev_i u2), some (ev_i (u3 + 1))] [] S5 Q
              refine ev_goto 120 dX11_passes_247 (by decide) ?_
              exact hQ
            · replace hQ := hQ.1 c6
              refine ev_goto 244 dX11_passes_182 (by decide) ?_
              refine ev_iinc u3 (1) dX11_passes_244 rfl (by decide) (ev_hw rfl) ?_
              show ev_E g m_X11_passes 5 0 247 [some (ev_o 11 a), none, some (ev_i u2), some (ev_i (u3 + 1))] [] S Q
              refine ev_goto 120 dX11_passes_247 (by decide) ?_
              exact hQ
set_option maxHeartbeats 4000000 in
set_option maxRecDepth 100000 in
theorem sg_X11_areEqual_0 {g : ev_G} {S : ev_S} {Q : ev_O → ev_S → Prop} (a : Nat) (hQ : ((S.1 (a + 2) 6) = (S.1 (a + 9) 6) → (
    ev_E g m_X11_areEqual 1 0 29 [some (ev_o 11 a), some (ev_i 1), some (ev_i 0)] [] S Q)) ∧
  (¬ ((S.1 (a + 2) 6) = (S.1 (a + 9) 6)) → (
    ev_E g m_X11_areEqual 1 0 29 [some (ev_o 11 a), some (ev_i 0), some (ev_i 0)] [] S Q))) : ev_Cv g m_X11_areEqual 1 0 [ev_o 11 a] S Q := by
  refine ev_enter (by decide) rfl rfl (Nat.le_of_ble_eq_true rfl) ?_
  show ev_E g m_X11_areEqual 1 0 0 [some (ev_o 11 a), none, none] [] S Q
  refine ev_aload_n (ev_o 11 a) dX11_areEqual_0 rfl rfl ?_
  refine gf_11_11 dX11_areEqual_1 kw_818 ?_
  refine ev_iconst (0) dX11_areEqual_4 rfl ?_
  refine ev_aalB dX11_areEqual_5 (j_vin (by decide)) ?_
  show ev_E g m_X11_areEqual 1 0 6 [some (ev_o 11 a), none, none] [ev_o 10 (a + 2)] S Q
  refine gn_10_6 dX11_areEqual_6 (List.mem_of_getElem? (i := 10) rfl) ?_
  refine ev_aload_n (ev_o 11 a) dX11_areEqual_9 rfl rfl ?_
  refine gf_11_11 dX11_areEqual_10 kw_818 ?_
  refine ev_iconst (1) dX11_areEqual_13 rfl ?_
  refine ev_aalB dX11_areEqual_14 (j_vin (by decide)) ?_
  show ev_E g m_X11_areEqual 1 0 15 [some (ev_o 11 a), none, none] [ev_o 10 (a + 9), ev_i (S.1 (a + 2) 6)] S Q
  refine gn_10_6 dX11_areEqual_15 (List.mem_of_getElem? (i := 10) rfl) ?_
  refine ev_icmp_ne 25 dX11_areEqual_18 (by decide) (fun c1 => ?_) (fun c1 => ?_)
  · replace hQ := hQ.2 c1
    refine ev_iconst (0) dX11_areEqual_25 rfl ?_
    refine ev_istore_n dX11_areEqual_26 (Nat.le_of_ble_eq_true rfl) (ev_hw rfl) ?_
    show ev_E g m_X11_areEqual 1 0 27 [some (ev_o 11 a), some (ev_i 0), none] [] S Q
    refine ev_iconst (0) dX11_areEqual_27 rfl ?_
    refine ev_istore_n dX11_areEqual_28 (Nat.le_of_ble_eq_true rfl) (ev_hw rfl) ?_
    show ev_E g m_X11_areEqual 1 0 29 [some (ev_o 11 a), some (ev_i 0), some (ev_i 0)] [] S Q
    exact hQ
  · replace hQ := hQ.1 c1
    refine ev_iconst (1) dX11_areEqual_21 rfl ?_
    refine ev_goto 26 dX11_areEqual_22 (by decide) ?_
    refine ev_istore_n dX11_areEqual_26 (Nat.le_of_ble_eq_true rfl) (ev_hw rfl) ?_
    show ev_E g m_X11_areEqual 1 0 27 [some (ev_o 11 a), some (ev_i 1), none] [] S Q
    refine ev_iconst (0) dX11_areEqual_27 rfl ?_
    refine ev_istore_n dX11_areEqual_28 (Nat.le_of_ble_eq_true rfl) (ev_hw rfl) ?_
    show ev_E g m_X11_areEqual 1 0 29 [some (ev_o 11 a), some (ev_i 1), some (ev_i 0)] [] S Q
    exact hQ
set_option maxHeartbeats 4000000 in
set_option maxRecDepth 100000 in
theorem sg_X11_areEqual_29 {g : ev_G} {S : ev_S} {Q : ev_O → ev_S → Prop} (a : Nat) (u1 : Int32) (u2 : Int32) (hQ : (64 ≤ u2 → (
    (narrow .boolean (.int u1) = .int u1) ∧ (
      Q (.inl (some (ev_i u1))) S))) ∧
  (¬ (64 ≤ u2) → (
    (u1 = 0 → (
      ev_E g m_X11_areEqual 1 0 29 [some (ev_o 11 a), some (ev_i 0), some (ev_i (u2 + 1))] [] S Q)) ∧
    (¬ (u1 = 0) → (
      (vp_in u2 64) ∧ (
        ((S.1 (a + 3) u2.toNatClampNeg) = (S.1 (a + 10) u2.toNatClampNeg) → (
          ev_E g m_X11_areEqual 1 0 29 [some (ev_o 11 a), some (ev_i 1), some (ev_i (u2 + 1))] [] S Q)) ∧
        (¬ ((S.1 (a + 3) u2.toNatClampNeg) = (S.1 (a + 10) u2.toNatClampNeg)) → (
          ev_E g m_X11_areEqual 1 0 29 [some (ev_o 11 a), some (ev_i 0), some (ev_i (u2 + 1))] [] S Q)))))))) : ev_E g m_X11_areEqual 1 0 29 [some (ev_o 11 a), some (ev_i u1), some (ev_i u2)] [] S Q := by
  refine ev_iload_n (u2) dX11_areEqual_29 rfl ?_
  refine ev_bipush (64) dX11_areEqual_30 (by decide) ?_
  refine ev_icmp_ge 76 dX11_areEqual_32 (by decide) (fun c1 => ?_) (fun c1 => ?_)
  · replace hQ := hQ.1 c1
    refine ev_iload_n (u1) dX11_areEqual_76 rfl ?_
    obtain ⟨h1, hQ⟩ := hQ
    exact ev_ireturn .boolean dX11_areEqual_77 rfl h1 hQ
  · replace hQ := hQ.2 c1
    refine ev_iload_n (u1) dX11_areEqual_35 rfl ?_
    refine ev_if_eq 68 dX11_areEqual_36 (by decide) (fun c2 => ?_) (fun c2 => ?_)
    · replace hQ := hQ.1 c2
      refine ev_iconst (0) dX11_areEqual_68 rfl ?_
      refine ev_istore_n dX11_areEqual_69 (Nat.le_of_ble_eq_true rfl) (ev_hw rfl) ?_
      show ev_E g m_X11_areEqual 1 0 70 [some (ev_o 11 a), some (ev_i 0), some (ev_i u2)] [] S Q
      refine ev_iinc u2 (1) dX11_areEqual_70 rfl (by decide) (ev_hw rfl) ?_
      show ev_E g m_X11_areEqual 1 0 73 [some (ev_o 11 a), some (ev_i 0), some (ev_i (u2 + 1))] [] S Q
      refine ev_goto 29 dX11_areEqual_73 (by decide) ?_
      exact hQ
    · replace hQ := hQ.2 c2
      refine ev_aload_n (ev_o 11 a) dX11_areEqual_39 rfl rfl ?_
      refine gf_11_11 dX11_areEqual_40 kw_818 ?_
      refine ev_iconst (0) dX11_areEqual_43 rfl ?_
      refine ev_aalB dX11_areEqual_44 (j_vin (by decide)) ?_
      show ev_E g m_X11_areEqual 1 0 45 [some (ev_o 11 a), some (ev_i u1), some (ev_i u2)] [ev_o 10 (a + 2)] S Q
      refine gn_10_0 dX11_areEqual_45 (List.mem_of_getElem? (i := 1) rfl) ?_
      refine ev_iload_n (u2) dX11_areEqual_48 rfl ?_
      obtain ⟨h2, hQ⟩ := hQ
      refine ev_iaload dX11_areEqual_49 h2 ?_
      refine ev_aload_n (ev_o 11 a) dX11_areEqual_50 rfl rfl ?_
      refine gf_11_11 dX11_areEqual_51 kw_818 ?_
      refine ev_iconst (1) dX11_areEqual_54 rfl ?_
      refine ev_aalB dX11_areEqual_55 (j_vin (by decide)) ?_
      show ev_E g m_X11_areEqual 1 0 56 [some (ev_o 11 a), some (ev_i u1), some (ev_i u2)] [ev_o 10 (a + 9), ev_i (S.1 (a + 3) u2.toNatClampNeg)] S Q
      refine gn_10_0 dX11_areEqual_56 (List.mem_of_getElem? (i := 1) rfl) ?_
      refine ev_iload_n (u2) dX11_areEqual_59 rfl ?_
      refine ev_iaload dX11_areEqual_60 h2 ?_
      refine ev_icmp_ne 68 dX11_areEqual_61 (by decide) (fun c3 => ?_) (fun c3 => ?_)
      · replace hQ := hQ.2 c3
        refine ev_iconst (0) dX11_areEqual_68 rfl ?_
        refine ev_istore_n dX11_areEqual_69 (Nat.le_of_ble_eq_true rfl) (ev_hw rfl) ?_
        show ev_E g m_X11_areEqual 1 0 70 [some (ev_o 11 a), some (ev_i 0), some (ev_i u2)] [] S Q
        refine ev_iinc u2 (1) dX11_areEqual_70 rfl (by decide) (ev_hw rfl) ?_
        show ev_E g m_X11_areEqual 1 0 73 [some (ev_o 11 a), some (ev_i 0), some (ev_i (u2 + 1))] [] S Q
        refine ev_goto 29 dX11_areEqual_73 (by decide) ?_
        exact hQ
      · replace hQ := hQ.1 c3
        refine ev_iconst (1) dX11_areEqual_64 rfl ?_
        refine ev_goto 69 dX11_areEqual_65 (by decide) ?_
        refine ev_istore_n dX11_areEqual_69 (Nat.le_of_ble_eq_true rfl) (ev_hw rfl) ?_
        show ev_E g m_X11_areEqual 1 0 70 [some (ev_o 11 a), some (ev_i 1), some (ev_i u2)] [] S Q
        refine ev_iinc u2 (1) dX11_areEqual_70 rfl (by decide) (ev_hw rfl) ?_
        show ev_E g m_X11_areEqual 1 0 73 [some (ev_o 11 a), some (ev_i 1), some (ev_i (u2 + 1))] [] S Q
        refine ev_goto 29 dX11_areEqual_73 (by decide) ?_
        exact hQ
set_option maxHeartbeats 4000000 in
set_option maxRecDepth 100000 in
theorem sg_X11_awaited_0 {g : ev_G} {S : ev_S} {Q : ev_O → ev_S → Prop} (a : Nat) (x0 : Int32) (hQ : ev_E g m_X11_awaited 1 0 2 [some (ev_o 11 a), some (ev_i x0), some (ev_i 0)] [] S Q) : ev_Cv g m_X11_awaited 1 0 [ev_o 11 a, ev_i x0] S Q := by
  refine ev_enter (by decide) rfl rfl (Nat.le_of_ble_eq_true rfl) ?_
  show ev_E g m_X11_awaited 1 0 0 [some (ev_o 11 a), some (ev_i x0), none] [] S Q
  refine ev_iconst (0) dX11_awaited_0 rfl ?_
  refine ev_istore_n dX11_awaited_1 (Nat.le_of_ble_eq_true rfl) (ev_hw rfl) ?_
  show ev_E g m_X11_awaited 1 0 2 [some (ev_o 11 a), some (ev_i x0), some (ev_i 0)] [] S Q
  exact hQ
set_option maxHeartbeats 4000000 in
set_option maxRecDepth 100000 in
theorem sg_X11_awaited_2 {g : ev_G} {S : ev_S} {Q : ev_O → ev_S → Prop} (a : Nat) (u1 : Int32) (u2 : Int32) (hQ : ((S.1 a 4) ≤ u2 → (
    Q (.inl (some (ev_i (-1)))) S)) ∧
  (¬ ((S.1 a 4) ≤ u2) → (
    (vp_in u2 81) ∧ (
      ((S.1 (a + 19) u2.toNatClampNeg) = u1 → (
        ev_E g m_X11_awaited 1 0 2 [some (ev_o 11 a), some (ev_i u1), some (ev_i (u2 + 1))] [] S Q)) ∧
      (¬ ((S.1 (a + 19) u2.toNatClampNeg) = u1) → (
        (2 ≤ (S.1 (a + 24) u2.toNatClampNeg) → (
          ev_E g m_X11_awaited 1 0 2 [some (ev_o 11 a), some (ev_i u1), some (ev_i (u2 + 1))] [] S Q)) ∧
        (¬ (2 ≤ (S.1 (a + 24) u2.toNatClampNeg)) → (
          (vp_in u1 2) ∧ (
            ((S.1 (a + 21) u2.toNatClampNeg) = ((S.1 (a_bd (a + 1) u1) 6) + 1) → (
              Q (.inl (some (ev_i u2))) S)) ∧
            (¬ ((S.1 (a + 21) u2.toNatClampNeg) = ((S.1 (a_bd (a + 1) u1) 6) + 1)) → (
              ev_E g m_X11_awaited 1 0 2 [some (ev_o 11 a), some (ev_i u1), some (ev_i (u2 + 1))] [] S Q))))))))))) : ev_E g m_X11_awaited 1 0 2 [some (ev_o 11 a), some (ev_i u1), some (ev_i u2)] [] S Q := by
  refine ev_iload_n (u2) dX11_awaited_2 rfl ?_
  refine ev_aload_n (ev_o 11 a) dX11_awaited_3 rfl rfl ?_
  refine gf_11_4 dX11_awaited_4 kw_805 ?_
  refine ev_icmp_ge 58 dX11_awaited_7 (by decide) (fun c1 => ?_) (fun c1 => ?_)
  · replace hQ := hQ.1 c1
    refine ev_iconst (-1) dX11_awaited_58 rfl ?_
    exact ev_ireturn .int dX11_awaited_59 rfl rfl hQ
  · replace hQ := hQ.2 c1
    refine ev_aload_n (ev_o 11 a) dX11_awaited_10 rfl rfl ?_
    refine gf_11_15 dX11_awaited_11 kw_826 ?_
    refine ev_iload_n (u2) dX11_awaited_14 rfl ?_
    obtain ⟨h1, hQ⟩ := hQ
    refine ev_iaload dX11_awaited_15 h1 ?_
    refine ev_iload_n (u1) dX11_awaited_16 rfl ?_
    refine ev_icmp_eq 52 dX11_awaited_17 (by decide) (fun c2 => ?_) (fun c2 => ?_)
    · replace hQ := hQ.1 c2
      refine ev_iinc u2 (1) dX11_awaited_52 rfl (by decide) (ev_hw rfl) ?_
      show ev_E g m_X11_awaited 1 0 55 [some (ev_o 11 a), some (ev_i u1), some (ev_i (u2 + 1))] [] S Q
      refine ev_goto 2 dX11_awaited_55 (by decide) ?_
      exact hQ
    · replace hQ := hQ.2 c2
      refine ev_aload_n (ev_o 11 a) dX11_awaited_20 rfl rfl ?_
      refine gf_11_20 dX11_awaited_21 kw_835 ?_
      refine ev_iload_n (u2) dX11_awaited_24 rfl ?_
      refine ev_iaload dX11_awaited_25 h1 ?_
      refine ev_iconst (2) dX11_awaited_26 rfl ?_
      refine ev_icmp_ge 52 dX11_awaited_27 (by decide) (fun c3 => ?_) (fun c3 => ?_)
      · replace hQ := hQ.1 c3
        refine ev_iinc u2 (1) dX11_awaited_52 rfl (by decide) (ev_hw rfl) ?_
        show ev_E g m_X11_awaited 1 0 55 [some (ev_o 11 a), some (ev_i u1), some (ev_i (u2 + 1))] [] S Q
        refine ev_goto 2 dX11_awaited_55 (by decide) ?_
        exact hQ
      · replace hQ := hQ.2 c3
        refine ev_aload_n (ev_o 11 a) dX11_awaited_30 rfl rfl ?_
        refine gf_11_17 dX11_awaited_31 kw_829 ?_
        refine ev_iload_n (u2) dX11_awaited_34 rfl ?_
        refine ev_iaload dX11_awaited_35 h1 ?_
        refine ev_aload_n (ev_o 11 a) dX11_awaited_36 rfl rfl ?_
        refine gf_11_11 dX11_awaited_37 kw_818 ?_
        refine ev_iload_n (u1) dX11_awaited_40 rfl ?_
        obtain ⟨h2, hQ⟩ := hQ
        refine ev_aalB dX11_awaited_41 h2 ?_
        show ev_E g m_X11_awaited 1 0 42 [some (ev_o 11 a), some (ev_i u1), some (ev_i u2)] [ev_o 10 (a_bd (a + 1) u1), ev_i (S.1 (a + 21) u2.toNatClampNeg)] S Q
        refine gn_10_6 dX11_awaited_42 (List.mem_of_getElem? (i := 10) rfl) ?_
        refine ev_iconst (1) dX11_awaited_45 rfl ?_
        refine ev_iadd dX11_awaited_46 ?_
        refine ev_icmp_ne 52 dX11_awaited_47 (by decide) (fun c4 => ?_) (fun c4 => ?_)
        · replace hQ := hQ.2 c4
          refine ev_iinc u2 (1) dX11_awaited_52 rfl (by decide) (ev_hw rfl) ?_
          show ev_E g m_X11_awaited 1 0 55 [some (ev_o 11 a), some (ev_i u1), some (ev_i (u2 + 1))] [] S Q
          refine ev_goto 2 dX11_awaited_55 (by decide) ?_
          exact hQ
        · replace hQ := hQ.1 c4
          refine ev_iload_n (u2) dX11_awaited_50 rfl ?_
          exact ev_ireturn .int dX11_awaited_51 rfl rfl hQ
set_option maxHeartbeats 4000000 in
set_option maxRecDepth 100000 in
theorem sg_X11_queue_0 {g : ev_G} {S : ev_S} {Q : ev_O → ev_S → Prop} (a : Nat) (x0 : Int32) (x1 : Int32) (hQ : ev_E g m_X11_queue 1 0 5 [some (ev_o 11 a), some (ev_i x0), some (ev_i x1), some (ev_i 0), some (ev_i 0)] [] S Q) : ev_Cv g m_X11_queue 1 0 [ev_o 11 a, ev_i x0, ev_i x1] S Q := by
  refine ev_enter (by decide) rfl rfl (Nat.le_of_ble_eq_true rfl) ?_
  show ev_E g m_X11_queue 1 0 0 [some (ev_o 11 a), some (ev_i x0), some (ev_i x1), none, none] [] S Q
  refine ev_iconst (0) dX11_queue_0 rfl ?_
  refine ev_istore_n dX11_queue_1 (Nat.le_of_ble_eq_true rfl) (ev_hw rfl) ?_
  show ev_E g m_X11_queue 1 0 2 [some (ev_o 11 a), some (ev_i x0), some (ev_i x1), some (ev_i 0), none] [] S Q
  refine ev_iconst (0) dX11_queue_2 rfl ?_
  refine ev_istore dX11_queue_3 (Nat.le_of_ble_eq_true rfl) (ev_hw rfl) ?_
  show ev_E g m_X11_queue 1 0 5 [some (ev_o 11 a), some (ev_i x0), some (ev_i x1), some (ev_i 0), some (ev_i 0)] [] S Q
  exact hQ
set_option maxHeartbeats 4000000 in
set_option maxRecDepth 100000 in
theorem sg_X11_queue_5 {g : ev_G} {S : ev_S} {Q : ev_O → ev_S → Prop} (a : Nat) (u1 : Int32) (u2 : Int32) (u3 : Int32) (u4 : Int32) (hQ : ((S.1 a 4) ≤ u4 → (
    Q (.inl (some (ev_i u3))) S)) ∧
  (¬ ((S.1 a 4) ≤ u4) → (
    (vp_in u4 81) ∧ (
      ((S.1 (a + 24) u4.toNatClampNeg) = 0 → (
        ((S.1 (a + 20) u4.toNatClampNeg) = u1 → (
          ((S.1 (a + 19) u4.toNatClampNeg) = u2 → (
            ev_E g m_X11_queue 1 0 5 [some (ev_o 11 a), some (ev_i u1), some (ev_i u2), some (ev_i (u3 + 1)), some (ev_i (u4 + 1))] [] S Q)) ∧
          (¬ ((S.1 (a + 19) u4.toNatClampNeg) = u2) → (
            ev_E g m_X11_queue 1 0 5 [some (ev_o 11 a), some (ev_i u1), some (ev_i u2), some (ev_i (u3 + 0)), some (ev_i (u4 + 1))] [] S Q)))) ∧
        (¬ ((S.1 (a + 20) u4.toNatClampNeg) = u1) → (
          ev_E g m_X11_queue 1 0 5 [some (ev_o 11 a), some (ev_i u1), some (ev_i u2), some (ev_i (u3 + 0)), some (ev_i (u4 + 1))] [] S Q)))) ∧
      (¬ ((S.1 (a + 24) u4.toNatClampNeg) = 0) → (
        ev_E g m_X11_queue 1 0 5 [some (ev_o 11 a), some (ev_i u1), some (ev_i u2), some (ev_i (u3 + 0)), some (ev_i (u4 + 1))] [] S Q)))))) : ev_E g m_X11_queue 1 0 5 [some (ev_o 11 a), some (ev_i u1), some (ev_i u2), some (ev_i u3), some (ev_i u4)] [] S Q := by
  refine ev_iload (u4) dX11_queue_5 rfl ?_
  refine ev_aload_n (ev_o 11 a) dX11_queue_7 rfl rfl ?_
  refine gf_11_4 dX11_queue_8 kw_805 ?_
  refine ev_icmp_ge 60 dX11_queue_11 (by decide) (fun c1 => ?_) (fun c1 => ?_)
  · replace hQ := hQ.1 c1
    refine ev_iload_n (u3) dX11_queue_60 rfl ?_
    exact ev_ireturn .int dX11_queue_61 rfl rfl hQ
  · replace hQ := hQ.2 c1
    refine ev_iload_n (u3) dX11_queue_14 rfl ?_
    refine ev_aload_n (ev_o 11 a) dX11_queue_15 rfl rfl ?_
    refine gf_11_20 dX11_queue_16 kw_835 ?_
    refine ev_iload (u4) dX11_queue_19 rfl ?_
    obtain ⟨h1, hQ⟩ := hQ
    refine ev_iaload dX11_queue_21 h1 ?_
    refine ev_if_ne 51 dX11_queue_22 (by decide) (fun c2 => ?_) (fun c2 => ?_)
    · replace hQ := hQ.2 c2
      refine ev_iconst (0) dX11_queue_51 rfl ?_
      refine ev_iadd dX11_queue_52 ?_
      refine ev_istore_n dX11_queue_53 (Nat.le_of_ble_eq_true rfl) (ev_hw rfl) ?_
      show ev_E g m_X11_queue 1 0 54 [some (ev_o 11 a), some (ev_i u1), some (ev_i u2), some (ev_i (u3 + 0)), some (ev_i u4)] [] S Q
      refine ev_iinc u4 (1) dX11_queue_54 rfl (by decide) (ev_hw rfl) ?_
      show ev_E g m_X11_queue 1 0 57 [some (ev_o 11 a), some (ev_i u1), some (ev_i u2), some (ev_i (u3 + 0)), some (ev_i (u4 + 1))] [] S Q
      refine ev_goto 5 dX11_queue_57 (by decide) ?_
      exact hQ
    · replace hQ := hQ.1 c2
      refine ev_aload_n (ev_o 11 a) dX11_queue_25 rfl rfl ?_
      refine gf_11_16 dX11_queue_26 kw_828 ?_
      refine ev_iload (u4) dX11_queue_29 rfl ?_
      refine ev_iaload dX11_queue_31 h1 ?_
      refine ev_iload_n (u1) dX11_queue_32 rfl ?_
      refine ev_icmp_ne 51 dX11_queue_33 (by decide) (fun c3 => ?_) (fun c3 => ?_)
      · replace hQ := hQ.2 c3
        refine ev_iconst (0) dX11_queue_51 rfl ?_
        refine ev_iadd dX11_queue_52 ?_
        refine ev_istore_n dX11_queue_53 (Nat.le_of_ble_eq_true rfl) (ev_hw rfl) ?_
        show ev_E g m_X11_queue 1 0 54 [some (ev_o 11 a), some (ev_i u1), some (ev_i u2), some (ev_i (u3 + 0)), some (ev_i u4)] [] S Q
        refine ev_iinc u4 (1) dX11_queue_54 rfl (by decide) (ev_hw rfl) ?_
        show ev_E g m_X11_queue 1 0 57 [some (ev_o 11 a), some (ev_i u1), some (ev_i u2), some (ev_i (u3 + 0)), some (ev_i (u4 + 1))] [] S Q
        refine ev_goto 5 dX11_queue_57 (by decide) ?_
        exact hQ
      · replace hQ := hQ.1 c3
        refine ev_aload_n (ev_o 11 a) dX11_queue_36 rfl rfl ?_
        refine gf_11_15 dX11_queue_37 kw_826 ?_
        refine ev_iload (u4) dX11_queue_40 rfl ?_
        refine ev_iaload dX11_queue_42 h1 ?_
        refine ev_iload_n (u2) dX11_queue_43 rfl ?_
        refine ev_icmp_ne 51 dX11_queue_44 (by decide) (fun c4 => ?_) (fun c4 => ?_)
        · replace hQ := hQ.2 c4
          refine ev_iconst (0) dX11_queue_51 rfl ?_
          refine ev_iadd dX11_queue_52 ?_
          refine ev_istore_n dX11_queue_53 (Nat.le_of_ble_eq_true rfl) (ev_hw rfl) ?_
          show ev_E g m_X11_queue 1 0 54 [some (ev_o 11 a), some (ev_i u1), some (ev_i u2), some (ev_i (u3 + 0)), some (ev_i u4)] [] S Q
          refine ev_iinc u4 (1) dX11_queue_54 rfl (by decide) (ev_hw rfl) ?_
          show ev_E g m_X11_queue 1 0 57 [some (ev_o 11 a), some (ev_i u1), some (ev_i u2), some (ev_i (u3 + 0)), some (ev_i (u4 + 1))] [] S Q
          refine ev_goto 5 dX11_queue_57 (by decide) ?_
          exact hQ
        · replace hQ := hQ.1 c4
          refine ev_iconst (1) dX11_queue_47 rfl ?_
          refine ev_goto 52 dX11_queue_48 (by decide) ?_
          refine ev_iadd dX11_queue_52 ?_
          refine ev_istore_n dX11_queue_53 (Nat.le_of_ble_eq_true rfl) (ev_hw rfl) ?_
          show ev_E g m_X11_queue 1 0 54 [some (ev_o 11 a), some (ev_i u1), some (ev_i u2), some (ev_i (u3 + 1)), some (ev_i u4)] [] S Q
          refine ev_iinc u4 (1) dX11_queue_54 rfl (by decide) (ev_hw rfl) ?_
          show ev_E g m_X11_queue 1 0 57 [some (ev_o 11 a), some (ev_i u1), some (ev_i u2), some (ev_i (u3 + 1)), some (ev_i (u4 + 1))] [] S Q
          refine ev_goto 5 dX11_queue_57 (by decide) ?_
          exact hQ
set_option maxHeartbeats 4000000 in
set_option maxRecDepth 100000 in
theorem sg_X11_copy_0 {g : ev_G} {S : ev_S} {Q : ev_O → ev_S → Prop} {B : Nat} (a : Nat) (hQ : ∀ q1_, ev_lw g ((0, q1_) :: S.2.1) → ∀ S1 : ev_S, S1 = ev_nt S 0 q1_ (ct_row ct_t11) → (
    ∀ S2 : ev_S, S2 = (ev_up S1 q1_ 0 (S1.1 a 0)) → (
      ∀ S3 : ev_S, S3 = (ev_up S2 q1_ 1 (S2.1 a 1)) → (
        ∀ S4 : ev_S, S4 = (ev_up S3 q1_ 2 (S3.1 a 2)) → (
          ∀ S5 : ev_S, S5 = (ev_up S4 q1_ 3 (S4.1 a 3)) → (
            ∀ S6 : ev_S, S6 = (ev_up S5 q1_ 4 (S5.1 a 4)) → (
              ∀ S7 : ev_S, S7 = (ev_up S6 q1_ 5 (S6.1 a 5)) → (
                ∀ S8 : ev_S, S8 = (ev_up S7 q1_ 6 (S7.1 a 6)) → (
                  ∀ S9 : ev_S, S9 = (ev_up S8 q1_ 7 (S8.1 a 7)) → (
                    ∀ S10 : ev_S, S10 = (ev_up S9 q1_ 8 (S9.1 a 8)) → (
                      ∀ S11 : ev_S, S11 = (ev_up S10 q1_ 9 (S10.1 a 9)) → (
                        ∀ S12 : ev_S, S12 = (ev_up S11 q1_ 10 (S11.1 a 10)) → (
                          ev_Cv g m_X10_takes 1 0 [ev_o 10 (q1_ + 2), ev_o 10 (a + 2)] S12 (fun o S13 => o = .inl none ∧ (
                            ev_Cv g m_X10_takes 1 0 [ev_o 10 (q1_ + 9), ev_o 10 (a + 9)] S13 (fun o S14 => o = .inl none ∧ (
                              ev_E g m_X11_copy 2 B 128 [some (ev_o 11 a), some (ev_o 11 q1_), some (ev_i 0)] [] S14 Q))))))))))))))))) : ev_Cv g m_X11_copy 2 (B + 360) [ev_o 11 a] S Q := by
  refine ev_enter (by decide) rfl rfl (Nat.le_of_ble_eq_true rfl) ?_
  show ev_E g m_X11_copy 2 (B + 360) 0 [some (ev_o 11 a), none, none] [] S Q
  refine ev_newT0 dX11_copy_0 dX11_copy_3 dX11_copy_4 kw_930 (Or.inr kw_931) (by omega) (by decide) (Nat.le_of_ble_eq_true rfl) (fun q1_ w1_ => ?_)
  replace hQ := hQ q1_ w1_
  refine ev_sub hQ (fun S1 hS1 hQ => ?_)
  refine ev_E.goal (pc' := 7) (L' := [some (ev_o 11 a), none, none]) (K' := [ev_o 11 q1_]) (S' := S1) ?_ rfl rfl rfl hS1
  refine ev_astore_n dX11_copy_7 rfl (Nat.le_of_ble_eq_true rfl) (ev_hw rfl) ?_
  show ev_E g m_X11_copy 2 B 8 [some (ev_o 11 a), some (ev_o 11 q1_), none] [] S1 Q
  refine ev_aload_n (ev_o 11 q1_) dX11_copy_8 rfl rfl ?_
  refine ev_aload_n (ev_o 11 a) dX11_copy_9 rfl rfl ?_
  refine gf_11_0 dX11_copy_10 kw_797 ?_
  refine pf_11_0 dX11_copy_13 kw_797 ?_
  refine ev_sub hQ (fun S2 hS2 hQ => ?_)
  refine ev_E.goal (pc' := 16) (L' := [some (ev_o 11 a), some (ev_o 11 q1_), none]) (K' := []) (S' := S2) ?_ rfl rfl rfl hS2
  refine ev_aload_n (ev_o 11 q1_) dX11_copy_16 rfl rfl ?_
  refine ev_aload_n (ev_o 11 a) dX11_copy_17 rfl rfl ?_
  refine gf_11_1 dX11_copy_18 kw_799 ?_
  refine pf_11_1 dX11_copy_21 kw_799 ?_
  refine ev_sub hQ (fun S3 hS3 hQ => ?_)
  refine ev_E.goal (pc' := 24) (L' := [some (ev_o 11 a), some (ev_o 11 q1_), none]) (K' := []) (S' := S3) ?_ rfl rfl rfl hS3
  refine ev_aload_n (ev_o 11 q1_) dX11_copy_24 rfl rfl ?_
  refine ev_aload_n (ev_o 11 a) dX11_copy_25 rfl rfl ?_
  refine gf_11_2 dX11_copy_26 kw_801 ?_
  refine pf_11_2 dX11_copy_29 kw_801 ?_
  refine ev_sub hQ (fun S4 hS4 hQ => ?_)
  refine ev_E.goal (pc' := 32) (L' := [some (ev_o 11 a), some (ev_o 11 q1_), none]) (K' := []) (S' := S4) ?_ rfl rfl rfl hS4
  refine ev_aload_n (ev_o 11 q1_) dX11_copy_32 rfl rfl ?_
  refine ev_aload_n (ev_o 11 a) dX11_copy_33 rfl rfl ?_
  refine gf_11_3 dX11_copy_34 kw_803 ?_
  refine pf_11_3 dX11_copy_37 kw_803 ?_
  refine ev_sub hQ (fun S5 hS5 hQ => ?_)
  refine ev_E.goal (pc' := 40) (L' := [some (ev_o 11 a), some (ev_o 11 q1_), none]) (K' := []) (S' := S5) ?_ rfl rfl rfl hS5
  refine ev_aload_n (ev_o 11 q1_) dX11_copy_40 rfl rfl ?_
  refine ev_aload_n (ev_o 11 a) dX11_copy_41 rfl rfl ?_
  refine gf_11_4 dX11_copy_42 kw_805 ?_
  refine pf_11_4 dX11_copy_45 kw_805 ?_
  refine ev_sub hQ (fun S6 hS6 hQ => ?_)
  refine ev_E.goal (pc' := 48) (L' := [some (ev_o 11 a), some (ev_o 11 q1_), none]) (K' := []) (S' := S6) ?_ rfl rfl rfl hS6
  refine ev_aload_n (ev_o 11 q1_) dX11_copy_48 rfl rfl ?_
  refine ev_aload_n (ev_o 11 a) dX11_copy_49 rfl rfl ?_
  refine gf_11_5 dX11_copy_50 kw_807 ?_
  refine pf_11_5 dX11_copy_53 kw_807 ?_
  refine ev_sub hQ (fun S7 hS7 hQ => ?_)
  refine ev_E.goal (pc' := 56) (L' := [some (ev_o 11 a), some (ev_o 11 q1_), none]) (K' := []) (S' := S7) ?_ rfl rfl rfl hS7
  refine ev_aload_n (ev_o 11 q1_) dX11_copy_56 rfl rfl ?_
  refine ev_aload_n (ev_o 11 a) dX11_copy_57 rfl rfl ?_
  refine gf_11_6 dX11_copy_58 kw_809 ?_
  refine pf_11_6 dX11_copy_61 kw_809 ?_
  refine ev_sub hQ (fun S8 hS8 hQ => ?_)
  refine ev_E.goal (pc' := 64) (L' := [some (ev_o 11 a), some (ev_o 11 q1_), none]) (K' := []) (S' := S8) ?_ rfl rfl rfl hS8
  refine ev_aload_n (ev_o 11 q1_) dX11_copy_64 rfl rfl ?_
  refine ev_aload_n (ev_o 11 a) dX11_copy_65 rfl rfl ?_
  refine gf_11_7 dX11_copy_66 kw_810 ?_
  refine pf_11_7 dX11_copy_69 kw_810 ?_
  refine ev_sub hQ (fun S9 hS9 hQ => ?_)
  refine ev_E.goal (pc' := 72) (L' := [some (ev_o 11 a), some (ev_o 11 q1_), none]) (K' := []) (S' := S9) ?_ rfl rfl rfl hS9
  refine ev_aload_n (ev_o 11 q1_) dX11_copy_72 rfl rfl ?_
  refine ev_aload_n (ev_o 11 a) dX11_copy_73 rfl rfl ?_
  refine gf_11_8 dX11_copy_74 kw_812 ?_
  refine pf_11_8 dX11_copy_77 kw_812 ?_
  refine ev_sub hQ (fun S10 hS10 hQ => ?_)
  refine ev_E.goal (pc' := 80) (L' := [some (ev_o 11 a), some (ev_o 11 q1_), none]) (K' := []) (S' := S10) ?_ rfl rfl rfl hS10
  refine ev_aload_n (ev_o 11 q1_) dX11_copy_80 rfl rfl ?_
  refine ev_aload_n (ev_o 11 a) dX11_copy_81 rfl rfl ?_
  refine gf_11_9 dX11_copy_82 kw_814 ?_
  refine pf_11_9 dX11_copy_85 kw_814 ?_
  refine ev_sub hQ (fun S11 hS11 hQ => ?_)
  refine ev_E.goal (pc' := 88) (L' := [some (ev_o 11 a), some (ev_o 11 q1_), none]) (K' := []) (S' := S11) ?_ rfl rfl rfl hS11
  refine ev_aload_n (ev_o 11 q1_) dX11_copy_88 rfl rfl ?_
  refine ev_aload_n (ev_o 11 a) dX11_copy_89 rfl rfl ?_
  refine gf_11_10 dX11_copy_90 kw_816 ?_
  refine pf_11_10 dX11_copy_93 kw_816 ?_
  refine ev_sub hQ (fun S12 hS12 hQ => ?_)
  refine ev_E.goal (pc' := 96) (L' := [some (ev_o 11 a), some (ev_o 11 q1_), none]) (K' := []) (S' := S12) ?_ rfl rfl rfl hS12
  refine ev_aload_n (ev_o 11 q1_) dX11_copy_96 rfl rfl ?_
  refine gf_11_11 dX11_copy_97 kw_818 ?_
  refine ev_iconst (0) dX11_copy_100 rfl ?_
  refine ev_aalB dX11_copy_101 (j_vin (by decide)) ?_
  show ev_E g m_X11_copy 2 B 102 [some (ev_o 11 a), some (ev_o 11 q1_), none] [ev_o 10 (q1_ + 2)] S12 Q
  refine ev_aload_n (ev_o 11 a) dX11_copy_102 rfl rfl ?_
  refine gf_11_11 dX11_copy_103 kw_818 ?_
  refine ev_iconst (0) dX11_copy_106 rfl ?_
  refine ev_aalB dX11_copy_107 (j_vin (by decide)) ?_
  show ev_E g m_X11_copy 2 B 108 [some (ev_o 11 a), some (ev_o 11 q1_), none] [ev_o 10 (a + 2), ev_o 10 (q1_ + 2)] S12 Q
  refine ev_cV mv_X10_takes 1 0 10 [ev_o 10 (a + 2)] [] dX11_copy_108 kw_932 rfl (by decide) rfl (by decide) (by omega) (Nat.le_of_ble_eq_true rfl) hQ ?_ rfl
  rintro o S13 ⟨rfl, hQ⟩
  show ev_E g m_X11_copy 2 B 111 [some (ev_o 11 a), some (ev_o 11 q1_), none] [] S13 Q
  refine ev_aload_n (ev_o 11 q1_) dX11_copy_111 rfl rfl ?_
  refine gf_11_11 dX11_copy_112 kw_818 ?_
  refine ev_iconst (1) dX11_copy_115 rfl ?_
  refine ev_aalB dX11_copy_116 (j_vin (by decide)) ?_
  show ev_E g m_X11_copy 2 B 117 [some (ev_o 11 a), some (ev_o 11 q1_), none] [ev_o 10 (q1_ + 9)] S13 Q
  refine ev_aload_n (ev_o 11 a) dX11_copy_117 rfl rfl ?_
  refine gf_11_11 dX11_copy_118 kw_818 ?_
  refine ev_iconst (1) dX11_copy_121 rfl ?_
  refine ev_aalB dX11_copy_122 (j_vin (by decide)) ?_
  show ev_E g m_X11_copy 2 B 123 [some (ev_o 11 a), some (ev_o 11 q1_), none] [ev_o 10 (a + 9), ev_o 10 (q1_ + 9)] S13 Q
  refine ev_cV mv_X10_takes 1 0 10 [ev_o 10 (a + 9)] [] dX11_copy_123 kw_932 rfl (by decide) rfl (by decide) (by omega) (Nat.le_of_ble_eq_true rfl) hQ ?_ rfl
  rintro o S14 ⟨rfl, hQ⟩
  show ev_E g m_X11_copy 2 B 126 [some (ev_o 11 a), some (ev_o 11 q1_), none] [] S14 Q
  refine ev_iconst (0) dX11_copy_126 rfl ?_
  refine ev_istore_n dX11_copy_127 (Nat.le_of_ble_eq_true rfl) (ev_hw rfl) ?_
  show ev_E g m_X11_copy 2 B 128 [some (ev_o 11 a), some (ev_o 11 q1_), some (ev_i 0)] [] S14 Q
  exact hQ
set_option maxHeartbeats 4000000 in
set_option maxRecDepth 100000 in
theorem sg_X11_copy_128 {g : ev_G} {S : ev_S} {Q : ev_O → ev_S → Prop} {B : Nat} (a : Nat) (w1 : Nat) (u2 : Int32) (hQ : (4 ≤ u2 → (
    ev_E g m_X11_copy 2 B 153 [some (ev_o 11 a), some (ev_o 11 w1), some (ev_i 0)] [] S Q)) ∧
  (¬ (4 ≤ u2) → (
    (vp_in u2 4) ∧ (
      ∀ S1 : ev_S, S1 = (ev_up S (w1 + 16) u2.toNatClampNeg (S.1 (a + 16) u2.toNatClampNeg)) → (
        ev_E g m_X11_copy 2 B 128 [some (ev_o 11 a), some (ev_o 11 w1), some (ev_i (u2 + 1))] [] S1 Q))))) : ev_E g m_X11_copy 2 B 128 [some (ev_o 11 a), some (ev_o 11 w1), some (ev_i u2)] [] S Q := by
  refine ev_iload_n (u2) dX11_copy_128 rfl ?_
  refine ev_iconst (4) dX11_copy_129 rfl ?_
  refine ev_icmp_ge 151 dX11_copy_130 (by decide) (fun c1 => ?_) (fun c1 => ?_)
  · replace hQ := hQ.1 c1
    refine ev_iconst (0) dX11_copy_151 rfl ?_
    refine ev_istore_n dX11_copy_152 (Nat.le_of_ble_eq_true rfl) (ev_hw rfl) ?_
    show ev_E g m_X11_copy 2 B 153 [some (ev_o 11 a), some (ev_o 11 w1), some (ev_i 0)] [] S Q
    exact hQ
  · replace hQ := hQ.2 c1
    refine ev_aload_n (ev_o 11 w1) dX11_copy_133 rfl rfl ?_
    refine gf_11_12 dX11_copy_134 kw_820 ?_
    refine ev_iload_n (u2) dX11_copy_137 rfl ?_
    refine ev_aload_n (ev_o 11 a) dX11_copy_138 rfl rfl ?_
    refine gf_11_12 dX11_copy_139 kw_820 ?_
    refine ev_iload_n (u2) dX11_copy_142 rfl ?_
    obtain ⟨h1, hQ⟩ := hQ
    refine ev_iaload dX11_copy_143 h1 ?_
    refine ev_iastore dX11_copy_144 h1 ?_
    refine ev_sub hQ (fun S1 hS1 hQ => ?_)
    refine ev_E.goal (pc' := 145) (L' := [some (ev_o 11 a), some (ev_o 11 w1), some (ev_i u2)]) (K' := []) (S' := S1) ?_ rfl rfl rfl hS1
    refine ev_iinc u2 (1) dX11_copy_145 rfl (by decide) (ev_hw rfl) ?_
    show ev_E g m_X11_copy 2 B 148 [some (ev_o 11 a), some (ev_o 11 w1), some (ev_i (u2 + 1))] [] S1 Q
    refine ev_goto 128 dX11_copy_148 (by decide) ?_
    exact hQ
set_option maxHeartbeats 4000000 in
set_option maxRecDepth 100000 in
theorem sg_X11_copy_153 {g : ev_G} {S : ev_S} {Q : ev_O → ev_S → Prop} {B : Nat} (a : Nat) (w1 : Nat) (u2 : Int32) (hQ : (8 ≤ u2 → (
    ev_E g m_X11_copy 2 B 179 [some (ev_o 11 a), some (ev_o 11 w1), some (ev_i 0)] [] S Q)) ∧
  (¬ (8 ≤ u2) → (
    (vp_in u2 8) ∧ (
      ∀ S1 : ev_S, S1 = (ev_up S (w1 + 17) u2.toNatClampNeg (S.1 (a + 17) u2.toNatClampNeg)) → (
        ev_E g m_X11_copy 2 B 153 [some (ev_o 11 a), some (ev_o 11 w1), some (ev_i (u2 + 1))] [] S1 Q))))) : ev_E g m_X11_copy 2 B 153 [some (ev_o 11 a), some (ev_o 11 w1), some (ev_i u2)] [] S Q := by
  refine ev_iload_n (u2) dX11_copy_153 rfl ?_
  refine ev_bipush (8) dX11_copy_154 (by decide) ?_
  refine ev_icmp_ge 177 dX11_copy_156 (by decide) (fun c1 => ?_) (fun c1 => ?_)
  · replace hQ := hQ.1 c1
    refine ev_iconst (0) dX11_copy_177 rfl ?_
    refine ev_istore_n dX11_copy_178 (Nat.le_of_ble_eq_true rfl) (ev_hw rfl) ?_
    show ev_E g m_X11_copy 2 B 179 [some (ev_o 11 a), some (ev_o 11 w1), some (ev_i 0)] [] S Q
    exact hQ
  · replace hQ := hQ.2 c1
    refine ev_aload_n (ev_o 11 w1) dX11_copy_159 rfl rfl ?_
    refine gf_11_13 dX11_copy_160 kw_822 ?_
    refine ev_iload_n (u2) dX11_copy_163 rfl ?_
    refine ev_aload_n (ev_o 11 a) dX11_copy_164 rfl rfl ?_
    refine gf_11_13 dX11_copy_165 kw_822 ?_
    refine ev_iload_n (u2) dX11_copy_168 rfl ?_
    obtain ⟨h1, hQ⟩ := hQ
    refine ev_iaload dX11_copy_169 h1 ?_
    refine ev_iastore dX11_copy_170 h1 ?_
    refine ev_sub hQ (fun S1 hS1 hQ => ?_)
    refine ev_E.goal (pc' := 171) (L' := [some (ev_o 11 a), some (ev_o 11 w1), some (ev_i u2)]) (K' := []) (S' := S1) ?_ rfl rfl rfl hS1
    refine ev_iinc u2 (1) dX11_copy_171 rfl (by decide) (ev_hw rfl) ?_
    show ev_E g m_X11_copy 2 B 174 [some (ev_o 11 a), some (ev_o 11 w1), some (ev_i (u2 + 1))] [] S1 Q
    refine ev_goto 153 dX11_copy_174 (by decide) ?_
    exact hQ
set_option maxHeartbeats 4000000 in
set_option maxRecDepth 100000 in
theorem sg_X11_copy_179 {g : ev_G} {S : ev_S} {Q : ev_O → ev_S → Prop} {B : Nat} (a : Nat) (w1 : Nat) (u2 : Int32) (hQ : (48 ≤ u2 → (
    ev_E g m_X11_copy 2 B 205 [some (ev_o 11 a), some (ev_o 11 w1), some (ev_i 0)] [] S Q)) ∧
  (¬ (48 ≤ u2) → (
    (vp_in u2 48) ∧ (
      ∀ S1 : ev_S, S1 = (ev_up S (w1 + 18) u2.toNatClampNeg (S.1 (a + 18) u2.toNatClampNeg)) → (
        ev_E g m_X11_copy 2 B 179 [some (ev_o 11 a), some (ev_o 11 w1), some (ev_i (u2 + 1))] [] S1 Q))))) : ev_E g m_X11_copy 2 B 179 [some (ev_o 11 a), some (ev_o 11 w1), some (ev_i u2)] [] S Q := by
  refine ev_iload_n (u2) dX11_copy_179 rfl ?_
  refine ev_bipush (48) dX11_copy_180 (by decide) ?_
  refine ev_icmp_ge 203 dX11_copy_182 (by decide) (fun c1 => ?_) (fun c1 => ?_)
  · replace hQ := hQ.1 c1
    refine ev_iconst (0) dX11_copy_203 rfl ?_
    refine ev_istore_n dX11_copy_204 (Nat.le_of_ble_eq_true rfl) (ev_hw rfl) ?_
    show ev_E g m_X11_copy 2 B 205 [some (ev_o 11 a), some (ev_o 11 w1), some (ev_i 0)] [] S Q
    exact hQ
  · replace hQ := hQ.2 c1
    refine ev_aload_n (ev_o 11 w1) dX11_copy_185 rfl rfl ?_
    refine gf_11_14 dX11_copy_186 kw_824 ?_
    refine ev_iload_n (u2) dX11_copy_189 rfl ?_
    refine ev_aload_n (ev_o 11 a) dX11_copy_190 rfl rfl ?_
    refine gf_11_14 dX11_copy_191 kw_824 ?_
    refine ev_iload_n (u2) dX11_copy_194 rfl ?_
    obtain ⟨h1, hQ⟩ := hQ
    refine ev_iaload dX11_copy_195 h1 ?_
    refine ev_iastore dX11_copy_196 h1 ?_
    refine ev_sub hQ (fun S1 hS1 hQ => ?_)
    refine ev_E.goal (pc' := 197) (L' := [some (ev_o 11 a), some (ev_o 11 w1), some (ev_i u2)]) (K' := []) (S' := S1) ?_ rfl rfl rfl hS1
    refine ev_iinc u2 (1) dX11_copy_197 rfl (by decide) (ev_hw rfl) ?_
    show ev_E g m_X11_copy 2 B 200 [some (ev_o 11 a), some (ev_o 11 w1), some (ev_i (u2 + 1))] [] S1 Q
    refine ev_goto 179 dX11_copy_200 (by decide) ?_
    exact hQ
set_option maxHeartbeats 4000000 in
set_option maxRecDepth 100000 in
theorem sg_X11_copy_205 {g : ev_G} {S : ev_S} {Q : ev_O → ev_S → Prop} {B : Nat} (a : Nat) (w1 : Nat) (u2 : Int32) (hQ : ((S.1 a 4) ≤ u2 → (
    ev_E g m_X11_copy 2 B 353 [some (ev_o 11 a), some (ev_o 11 w1), some (ev_i 0)] [] S Q)) ∧
  (¬ ((S.1 a 4) ≤ u2) → (
    (vp_in u2 81) ∧ (
      ∀ S1 : ev_S, S1 = (ev_up S (w1 + 19) u2.toNatClampNeg (S.1 (a + 19) u2.toNatClampNeg)) → (
        ∀ S2 : ev_S, S2 = (ev_up S1 (w1 + 20) u2.toNatClampNeg (S1.1 (a + 20) u2.toNatClampNeg)) → (
          ∀ S3 : ev_S, S3 = (ev_up S2 (w1 + 21) u2.toNatClampNeg (S2.1 (a + 21) u2.toNatClampNeg)) → (
            ∀ S4 : ev_S, S4 = (ev_up S3 (w1 + 22) u2.toNatClampNeg (S3.1 (a + 22) u2.toNatClampNeg)) → (
              ∀ S5 : ev_S, S5 = (ev_up S4 (w1 + 23) u2.toNatClampNeg (S4.1 (a + 23) u2.toNatClampNeg)) → (
                ∀ S6 : ev_S, S6 = (ev_up S5 (w1 + 24) u2.toNatClampNeg (S5.1 (a + 24) u2.toNatClampNeg)) → (
                  ∀ S7 : ev_S, S7 = (ev_up S6 (w1 + 25) u2.toNatClampNeg (S6.1 (a + 25) u2.toNatClampNeg)) → (
                    ∀ S8 : ev_S, S8 = (ev_up S7 (w1 + 26) u2.toNatClampNeg (S7.1 (a + 26) u2.toNatClampNeg)) → (
                      ∀ S9 : ev_S, S9 = (ev_up S8 (w1 + 27) u2.toNatClampNeg (S8.1 (a + 27) u2.toNatClampNeg)) → (
                        ∀ S10 : ev_S, S10 = (ev_up S9 (w1 + 28) u2.toNatClampNeg (S9.1 (a + 28) u2.toNatClampNeg)) → (
                          (vp_nar .boolean (S10.1 (a + 29) u2.toNatClampNeg) = (S10.1 (a + 29) u2.toNatClampNeg)) ∧ (
                            ∀ S11 : ev_S, S11 = (ev_up S10 (w1 + 29) u2.toNatClampNeg (S10.1 (a + 29) u2.toNatClampNeg)) → (
                              ev_E g m_X11_copy 2 B 205 [some (ev_o 11 a), some (ev_o 11 w1), some (ev_i (u2 + 1))] [] S11 Q)))))))))))))))) : ev_E g m_X11_copy 2 B 205 [some (ev_o 11 a), some (ev_o 11 w1), some (ev_i u2)] [] S Q := by
  refine ev_iload_n (u2) dX11_copy_205 rfl ?_
  refine ev_aload_n (ev_o 11 a) dX11_copy_206 rfl rfl ?_
  refine gf_11_4 dX11_copy_207 kw_805 ?_
  refine ev_icmp_ge 351 dX11_copy_210 (by decide) (fun c1 => ?_) (fun c1 => ?_)
  · replace hQ := hQ.1 c1
    refine ev_iconst (0) dX11_copy_351 rfl ?_
    refine ev_istore_n dX11_copy_352 (Nat.le_of_ble_eq_true rfl) (ev_hw rfl) ?_
    show ev_E g m_X11_copy 2 B 353 [some (ev_o 11 a), some (ev_o 11 w1), some (ev_i 0)] [] S Q
    exact hQ
  · replace hQ := hQ.2 c1
    refine ev_aload_n (ev_o 11 w1) dX11_copy_213 rfl rfl ?_
    refine gf_11_15 dX11_copy_214 kw_826 ?_
    refine ev_iload_n (u2) dX11_copy_217 rfl ?_
    refine ev_aload_n (ev_o 11 a) dX11_copy_218 rfl rfl ?_
    refine gf_11_15 dX11_copy_219 kw_826 ?_
    refine ev_iload_n (u2) dX11_copy_222 rfl ?_
    obtain ⟨h1, hQ⟩ := hQ
    refine ev_iaload dX11_copy_223 h1 ?_
    refine ev_iastore dX11_copy_224 h1 ?_
    refine ev_sub hQ (fun S1 hS1 hQ => ?_)
    refine ev_E.goal (pc' := 225) (L' := [some (ev_o 11 a), some (ev_o 11 w1), some (ev_i u2)]) (K' := []) (S' := S1) ?_ rfl rfl rfl hS1
    refine ev_aload_n (ev_o 11 w1) dX11_copy_225 rfl rfl ?_
    refine gf_11_16 dX11_copy_226 kw_828 ?_
    refine ev_iload_n (u2) dX11_copy_229 rfl ?_
    refine ev_aload_n (ev_o 11 a) dX11_copy_230 rfl rfl ?_
    refine gf_11_16 dX11_copy_231 kw_828 ?_
    refine ev_iload_n (u2) dX11_copy_234 rfl ?_
    refine ev_iaload dX11_copy_235 h1 ?_
    refine ev_iastore dX11_copy_236 h1 ?_
    refine ev_sub hQ (fun S2 hS2 hQ => ?_)
    refine ev_E.goal (pc' := 237) (L' := [some (ev_o 11 a), some (ev_o 11 w1), some (ev_i u2)]) (K' := []) (S' := S2) ?_ rfl rfl rfl hS2
    refine ev_aload_n (ev_o 11 w1) dX11_copy_237 rfl rfl ?_
    refine gf_11_17 dX11_copy_238 kw_829 ?_
    refine ev_iload_n (u2) dX11_copy_241 rfl ?_
    refine ev_aload_n (ev_o 11 a) dX11_copy_242 rfl rfl ?_
    refine gf_11_17 dX11_copy_243 kw_829 ?_
    refine ev_iload_n (u2) dX11_copy_246 rfl ?_
    refine ev_iaload dX11_copy_247 h1 ?_
    refine ev_iastore dX11_copy_248 h1 ?_
    refine ev_sub hQ (fun S3 hS3 hQ => ?_)
    refine ev_E.goal (pc' := 249) (L' := [some (ev_o 11 a), some (ev_o 11 w1), some (ev_i u2)]) (K' := []) (S' := S3) ?_ rfl rfl rfl hS3
    refine ev_aload_n (ev_o 11 w1) dX11_copy_249 rfl rfl ?_
    refine gf_11_18 dX11_copy_250 kw_831 ?_
    refine ev_iload_n (u2) dX11_copy_253 rfl ?_
    refine ev_aload_n (ev_o 11 a) dX11_copy_254 rfl rfl ?_
    refine gf_11_18 dX11_copy_255 kw_831 ?_
    refine ev_iload_n (u2) dX11_copy_258 rfl ?_
    refine ev_iaload dX11_copy_259 h1 ?_
    refine ev_iastore dX11_copy_260 h1 ?_
    refine ev_sub hQ (fun S4 hS4 hQ => ?_)
    refine ev_E.goal (pc' := 261) (L' := [some (ev_o 11 a), some (ev_o 11 w1), some (ev_i u2)]) (K' := []) (S' := S4) ?_ rfl rfl rfl hS4
    refine ev_aload_n (ev_o 11 w1) dX11_copy_261 rfl rfl ?_
    refine gf_11_19 dX11_copy_262 kw_833 ?_
    refine ev_iload_n (u2) dX11_copy_265 rfl ?_
    refine ev_aload_n (ev_o 11 a) dX11_copy_266 rfl rfl ?_
    refine gf_11_19 dX11_copy_267 kw_833 ?_
    refine ev_iload_n (u2) dX11_copy_270 rfl ?_
    refine ev_iaload dX11_copy_271 h1 ?_
    refine ev_iastore dX11_copy_272 h1 ?_
    refine ev_sub hQ (fun S5 hS5 hQ => ?_)
    refine ev_E.goal (pc' := 273) (L' := [some (ev_o 11 a), some (ev_o 11 w1), some (ev_i u2)]) (K' := []) (S' := S5) ?_ rfl rfl rfl hS5
    refine ev_aload_n (ev_o 11 w1) dX11_copy_273 rfl rfl ?_
    refine gf_11_20 dX11_copy_274 kw_835 ?_
    refine ev_iload_n (u2) dX11_copy_277 rfl ?_
    refine ev_aload_n (ev_o 11 a) dX11_copy_278 rfl rfl ?_
    refine gf_11_20 dX11_copy_279 kw_835 ?_
    refine ev_iload_n (u2) dX11_copy_282 rfl ?_
    refine ev_iaload dX11_copy_283 h1 ?_
    refine ev_iastore dX11_copy_284 h1 ?_
    refine ev_sub hQ (fun S6 hS6 hQ => ?_)
    refine ev_E.goal (pc' := 285) (L' := [some (ev_o 11 a), some (ev_o 11 w1), some (ev_i u2)]) (K' := []) (S' := S6) ?_ rfl rfl rfl hS6
    refine ev_aload_n (ev_o 11 w1) dX11_copy_285 rfl rfl ?_
    refine gf_11_21 dX11_copy_286 kw_837 ?_
    refine ev_iload_n (u2) dX11_copy_289 rfl ?_
    refine ev_aload_n (ev_o 11 a) dX11_copy_290 rfl rfl ?_
    refine gf_11_21 dX11_copy_291 kw_837 ?_
    refine ev_iload_n (u2) dX11_copy_294 rfl ?_
    refine ev_iaload dX11_copy_295 h1 ?_
    refine ev_iastore dX11_copy_296 h1 ?_
    refine ev_sub hQ (fun S7 hS7 hQ => ?_)
    refine ev_E.goal (pc' := 297) (L' := [some (ev_o 11 a), some (ev_o 11 w1), some (ev_i u2)]) (K' := []) (S' := S7) ?_ rfl rfl rfl hS7
    refine ev_aload_n (ev_o 11 w1) dX11_copy_297 rfl rfl ?_
    refine gf_11_22 dX11_copy_298 kw_838 ?_
    refine ev_iload_n (u2) dX11_copy_301 rfl ?_
    refine ev_aload_n (ev_o 11 a) dX11_copy_302 rfl rfl ?_
    refine gf_11_22 dX11_copy_303 kw_838 ?_
    refine ev_iload_n (u2) dX11_copy_306 rfl ?_
    refine ev_iaload dX11_copy_307 h1 ?_
    refine ev_iastore dX11_copy_308 h1 ?_
    refine ev_sub hQ (fun S8 hS8 hQ => ?_)
    refine ev_E.goal (pc' := 309) (L' := [some (ev_o 11 a), some (ev_o 11 w1), some (ev_i u2)]) (K' := []) (S' := S8) ?_ rfl rfl rfl hS8
    refine ev_aload_n (ev_o 11 w1) dX11_copy_309 rfl rfl ?_
    refine gf_11_23 dX11_copy_310 kw_839 ?_
    refine ev_iload_n (u2) dX11_copy_313 rfl ?_
    refine ev_aload_n (ev_o 11 a) dX11_copy_314 rfl rfl ?_
    refine gf_11_23 dX11_copy_315 kw_839 ?_
    refine ev_iload_n (u2) dX11_copy_318 rfl ?_
    refine ev_iaload dX11_copy_319 h1 ?_
    refine ev_iastore dX11_copy_320 h1 ?_
    refine ev_sub hQ (fun S9 hS9 hQ => ?_)
    refine ev_E.goal (pc' := 321) (L' := [some (ev_o 11 a), some (ev_o 11 w1), some (ev_i u2)]) (K' := []) (S' := S9) ?_ rfl rfl rfl hS9
    refine ev_aload_n (ev_o 11 w1) dX11_copy_321 rfl rfl ?_
    refine gf_11_24 dX11_copy_322 kw_840 ?_
    refine ev_iload_n (u2) dX11_copy_325 rfl ?_
    refine ev_aload_n (ev_o 11 a) dX11_copy_326 rfl rfl ?_
    refine gf_11_24 dX11_copy_327 kw_840 ?_
    refine ev_iload_n (u2) dX11_copy_330 rfl ?_
    refine ev_iaload dX11_copy_331 h1 ?_
    refine ev_iastore dX11_copy_332 h1 ?_
    refine ev_sub hQ (fun S10 hS10 hQ => ?_)
    refine ev_E.goal (pc' := 333) (L' := [some (ev_o 11 a), some (ev_o 11 w1), some (ev_i u2)]) (K' := []) (S' := S10) ?_ rfl rfl rfl hS10
    refine ev_aload_n (ev_o 11 w1) dX11_copy_333 rfl rfl ?_
    refine gf_11_25 dX11_copy_334 kw_841 ?_
    refine ev_iload_n (u2) dX11_copy_337 rfl ?_
    refine ev_aload_n (ev_o 11 a) dX11_copy_338 rfl rfl ?_
    refine gf_11_25 dX11_copy_339 kw_841 ?_
    refine ev_iload_n (u2) dX11_copy_342 rfl ?_
    refine ev_baload (n := 81) (by decide) dX11_copy_343 h1 ?_
    obtain ⟨h2, hQ⟩ := hQ
    refine ev_bastore (n := 81) (by decide) dX11_copy_344 h1 h2 ?_
    refine ev_sub hQ (fun S11 hS11 hQ => ?_)
    refine ev_E.goal (pc' := 345) (L' := [some (ev_o 11 a), some (ev_o 11 w1), some (ev_i u2)]) (K' := []) (S' := S11) ?_ rfl rfl rfl hS11
    refine ev_iinc u2 (1) dX11_copy_345 rfl (by decide) (ev_hw rfl) ?_
    show ev_E g m_X11_copy 2 B 348 [some (ev_o 11 a), some (ev_o 11 w1), some (ev_i (u2 + 1))] [] S11 Q
    refine ev_goto 205 dX11_copy_348 (by decide) ?_
    exact hQ
set_option maxHeartbeats 4000000 in
set_option maxRecDepth 100000 in
theorem sg_X11_copy_353 {g : ev_G} {S : ev_S} {Q : ev_O → ev_S → Prop} {B : Nat} (a : Nat) (w1 : Nat) (u2 : Int32) (hQ : (64 ≤ u2 → (
    Q (.inl (some (ev_o 11 w1))) S)) ∧
  (¬ (64 ≤ u2) → (
    (vp_in u2 64) ∧ (
      (vp_nar .boolean (S.1 (a + 30) u2.toNatClampNeg) = (S.1 (a + 30) u2.toNatClampNeg)) ∧ (
        ∀ S1 : ev_S, S1 = (ev_up S (w1 + 30) u2.toNatClampNeg (S.1 (a + 30) u2.toNatClampNeg)) → (
          (vp_nar .boolean (S1.1 (a + 31) u2.toNatClampNeg) = (S1.1 (a + 31) u2.toNatClampNeg)) ∧ (
            ∀ S2 : ev_S, S2 = (ev_up S1 (w1 + 31) u2.toNatClampNeg (S1.1 (a + 31) u2.toNatClampNeg)) → (
              ∀ S3 : ev_S, S3 = (ev_up S2 (w1 + 32) u2.toNatClampNeg (S2.1 (a + 32) u2.toNatClampNeg)) → (
                ∀ S4 : ev_S, S4 = (ev_up S3 (w1 + 33) u2.toNatClampNeg (S3.1 (a + 33) u2.toNatClampNeg)) → (
                  ∀ S5 : ev_S, S5 = (ev_up S4 (w1 + 34) u2.toNatClampNeg (S4.1 (a + 34) u2.toNatClampNeg)) → (
                    ∀ S6 : ev_S, S6 = (ev_up S5 (w1 + 35) u2.toNatClampNeg (S5.1 (a + 35) u2.toNatClampNeg)) → (
                      ev_E g m_X11_copy 2 B 353 [some (ev_o 11 a), some (ev_o 11 w1), some (ev_i (u2 + 1))] [] S6 Q)))))))))))) : ev_E g m_X11_copy 2 B 353 [some (ev_o 11 a), some (ev_o 11 w1), some (ev_i u2)] [] S Q := by
  refine ev_iload_n (u2) dX11_copy_353 rfl ?_
  refine ev_bipush (64) dX11_copy_354 (by decide) ?_
  refine ev_icmp_ge 437 dX11_copy_356 (by decide) (fun c1 => ?_) (fun c1 => ?_)
  · replace hQ := hQ.1 c1
    refine ev_aload_n (ev_o 11 w1) dX11_copy_437 rfl rfl ?_
    exact ev_areturn _ dX11_copy_438 rfl rfl (Or.inl ⟨_, rfl⟩) hQ
  · replace hQ := hQ.2 c1
    refine ev_aload_n (ev_o 11 w1) dX11_copy_359 rfl rfl ?_
    refine gf_11_26 dX11_copy_360 kw_843 ?_
    refine ev_iload_n (u2) dX11_copy_363 rfl ?_
    refine ev_aload_n (ev_o 11 a) dX11_copy_364 rfl rfl ?_
    refine gf_11_26 dX11_copy_365 kw_843 ?_
    refine ev_iload_n (u2) dX11_copy_368 rfl ?_
    obtain ⟨h1, hQ⟩ := hQ
    refine ev_baload (n := 64) (by decide) dX11_copy_369 h1 ?_
    obtain ⟨h2, hQ⟩ := hQ
    refine ev_bastore (n := 64) (by decide) dX11_copy_370 h1 h2 ?_
    refine ev_sub hQ (fun S1 hS1 hQ => ?_)
    refine ev_E.goal (pc' := 371) (L' := [some (ev_o 11 a), some (ev_o 11 w1), some (ev_i u2)]) (K' := []) (S' := S1) ?_ rfl rfl rfl hS1
    refine ev_aload_n (ev_o 11 w1) dX11_copy_371 rfl rfl ?_
    refine gf_11_27 dX11_copy_372 kw_845 ?_
    refine ev_iload_n (u2) dX11_copy_375 rfl ?_
    refine ev_aload_n (ev_o 11 a) dX11_copy_376 rfl rfl ?_
    refine gf_11_27 dX11_copy_377 kw_845 ?_
    refine ev_iload_n (u2) dX11_copy_380 rfl ?_
    refine ev_baload (n := 64) (by decide) dX11_copy_381 h1 ?_
    obtain ⟨h3, hQ⟩ := hQ
    refine ev_bastore (n := 64) (by decide) dX11_copy_382 h1 h3 ?_
    refine ev_sub hQ (fun S2 hS2 hQ => ?_)
    refine ev_E.goal (pc' := 383) (L' := [some (ev_o 11 a), some (ev_o 11 w1), some (ev_i u2)]) (K' := []) (S' := S2) ?_ rfl rfl rfl hS2
    refine ev_aload_n (ev_o 11 w1) dX11_copy_383 rfl rfl ?_
    refine gf_11_28 dX11_copy_384 kw_846 ?_
    refine ev_iload_n (u2) dX11_copy_387 rfl ?_
    refine ev_aload_n (ev_o 11 a) dX11_copy_388 rfl rfl ?_
    refine gf_11_28 dX11_copy_389 kw_846 ?_
    refine ev_iload_n (u2) dX11_copy_392 rfl ?_
    refine ev_iaload dX11_copy_393 h1 ?_
    refine ev_iastore dX11_copy_394 h1 ?_
    refine ev_sub hQ (fun S3 hS3 hQ => ?_)
    refine ev_E.goal (pc' := 395) (L' := [some (ev_o 11 a), some (ev_o 11 w1), some (ev_i u2)]) (K' := []) (S' := S3) ?_ rfl rfl rfl hS3
    refine ev_aload_n (ev_o 11 w1) dX11_copy_395 rfl rfl ?_
    refine gf_11_29 dX11_copy_396 kw_848 ?_
    refine ev_iload_n (u2) dX11_copy_399 rfl ?_
    refine ev_aload_n (ev_o 11 a) dX11_copy_400 rfl rfl ?_
    refine gf_11_29 dX11_copy_401 kw_848 ?_
    refine ev_iload_n (u2) dX11_copy_404 rfl ?_
    refine ev_iaload dX11_copy_405 h1 ?_
    refine ev_iastore dX11_copy_406 h1 ?_
    refine ev_sub hQ (fun S4 hS4 hQ => ?_)
    refine ev_E.goal (pc' := 407) (L' := [some (ev_o 11 a), some (ev_o 11 w1), some (ev_i u2)]) (K' := []) (S' := S4) ?_ rfl rfl rfl hS4
    refine ev_aload_n (ev_o 11 w1) dX11_copy_407 rfl rfl ?_
    refine gf_11_30 dX11_copy_408 kw_850 ?_
    refine ev_iload_n (u2) dX11_copy_411 rfl ?_
    refine ev_aload_n (ev_o 11 a) dX11_copy_412 rfl rfl ?_
    refine gf_11_30 dX11_copy_413 kw_850 ?_
    refine ev_iload_n (u2) dX11_copy_416 rfl ?_
    refine ev_iaload dX11_copy_417 h1 ?_
    refine ev_iastore dX11_copy_418 h1 ?_
    refine ev_sub hQ (fun S5 hS5 hQ => ?_)
    refine ev_E.goal (pc' := 419) (L' := [some (ev_o 11 a), some (ev_o 11 w1), some (ev_i u2)]) (K' := []) (S' := S5) ?_ rfl rfl rfl hS5
    refine ev_aload_n (ev_o 11 w1) dX11_copy_419 rfl rfl ?_
    refine gf_11_31 dX11_copy_420 kw_852 ?_
    refine ev_iload_n (u2) dX11_copy_423 rfl ?_
    refine ev_aload_n (ev_o 11 a) dX11_copy_424 rfl rfl ?_
    refine gf_11_31 dX11_copy_425 kw_852 ?_
    refine ev_iload_n (u2) dX11_copy_428 rfl ?_
    refine ev_iaload dX11_copy_429 h1 ?_
    refine ev_iastore dX11_copy_430 h1 ?_
    refine ev_sub hQ (fun S6 hS6 hQ => ?_)
    refine ev_E.goal (pc' := 431) (L' := [some (ev_o 11 a), some (ev_o 11 w1), some (ev_i u2)]) (K' := []) (S' := S6) ?_ rfl rfl rfl hS6
    refine ev_iinc u2 (1) dX11_copy_431 rfl (by decide) (ev_hw rfl) ?_
    show ev_E g m_X11_copy 2 B 434 [some (ev_o 11 a), some (ev_o 11 w1), some (ev_i (u2 + 1))] [] S6 Q
    refine ev_goto 353 dX11_copy_434 (by decide) ?_
    exact hQ
set_option maxHeartbeats 4000000 in
set_option maxRecDepth 100000 in
theorem sg_X11_arrival_0 {g : ev_G} {S : ev_S} {Q : ev_O → ev_S → Prop} {B : Nat} (a : Nat) (x0 : Int32) (hQ : ev_Cv g m_X11_copy 2 360 [ev_o 11 a] S (fun o S1 => ∃ v1_ : Nat, o = .inl (some (ev_o 11 v1_)) ∧ (
    ∀ S2 : ev_S, S2 = (ev_up S1 v1_ 32 (S1.1 a 32)) → (
      ev_E g m_X11_arrival 6 B 15 [none, some (ev_i x0), some (ev_o 11 v1_), some (ev_i 0)] [] S2 Q)))) : ev_Cv g m_X11_arrival 6 (B + 360) [ev_o 11 a, ev_i x0] S Q := by
  refine ev_enter (by decide) rfl rfl (Nat.le_of_ble_eq_true rfl) ?_
  show ev_E g m_X11_arrival 6 (B + 360) 0 [some (ev_o 11 a), some (ev_i x0), none, none] [] S Q
  refine ev_aload_n (ev_o 11 a) dX11_arrival_0 rfl rfl ?_
  refine ev_cV mv_X11_copy 2 360 11 [] [] dX11_arrival_1 kw_1493 rfl (by decide) rfl (by decide) (by omega) (Nat.le_of_ble_eq_true rfl) hQ ?_ rfl
  rintro o S1 ⟨v1_, rfl, hQ⟩
  show ev_E g m_X11_arrival 6 B 4 [some (ev_o 11 a), some (ev_i x0), none, none] [ev_o 11 v1_] S1 Q
  refine ev_astore_n dX11_arrival_4 rfl (Nat.le_of_ble_eq_true rfl) (ev_hw rfl) ?_
  show ev_E g m_X11_arrival 6 B 5 [some (ev_o 11 a), some (ev_i x0), some (ev_o 11 v1_), none] [] S1 Q
  refine ev_aload_n (ev_o 11 v1_) dX11_arrival_5 rfl rfl ?_
  refine ev_aload_n (ev_o 11 a) dX11_arrival_6 rfl rfl ?_
  refine gf_11_32 dX11_arrival_7 kw_854 ?_
  refine pf_11_32 dX11_arrival_10 kw_854 ?_
  refine ev_sub hQ (fun S2 hS2 hQ => ?_)
  refine ev_E.goal (pc' := 13) (L' := [some (ev_o 11 a), some (ev_i x0), some (ev_o 11 v1_), none]) (K' := []) (S' := S2) ?_ rfl rfl rfl hS2
  refine ev_iconst (0) dX11_arrival_13 rfl ?_
  refine ev_istore_n dX11_arrival_14 (Nat.le_of_ble_eq_true rfl) (ev_hw rfl) ?_
  show ev_E g m_X11_arrival 6 B 15 [some (ev_o 11 a), some (ev_i x0), some (ev_o 11 v1_), some (ev_i 0)] [] S2 Q
  refine ev_fgm [false, true, true, true] ?_
  exact hQ
set_option maxHeartbeats 4000000 in
set_option maxRecDepth 100000 in
theorem sg_X11_arrival_15 {g : ev_G} {S : ev_S} {Q : ev_O → ev_S → Prop} {B : Nat} (a : Nat) (u1 : Int32) (w2 : Nat) (u3 : Int32) (hQ : (400 ≤ u3 → (
    (vp_in u1 81) ∧ (
      (2 ≤ (S.1 (w2 + 24) u1.toNatClampNeg) → (
        Q (.inl (some (ev_i (S.1 (w2 + 28) u1.toNatClampNeg)))) S)) ∧
      (¬ (2 ≤ (S.1 (w2 + 24) u1.toNatClampNeg)) → (
        Q (.inl (some (ev_i (-1)))) S))))) ∧
  (¬ (400 ≤ u3) → (
    (vp_in u1 81) ∧ (
      (2 ≤ (S.1 (w2 + 24) u1.toNatClampNeg) → (
        Q (.inl (some (ev_i (S.1 (w2 + 28) u1.toNatClampNeg)))) S)) ∧
      (¬ (2 ≤ (S.1 (w2 + 24) u1.toNatClampNeg)) → (
        ev_Cv g m_X11_passes 5 0 [ev_o 11 w2] S (fun o S1 => o = .inl none ∧ (
          ev_E g m_X11_arrival 6 B 15 [none, some (ev_i u1), some (ev_o 11 w2), some (ev_i (u3 + 1))] [] S1 Q)))))))) : ev_E g m_X11_arrival 6 B 15 [none, some (ev_i u1), some (ev_o 11 w2), some (ev_i u3)] [] S Q := by
  refine ev_iload_n (u3) dX11_arrival_15 rfl ?_
  refine ev_sipush (400) dX11_arrival_16 (by decide) ?_
  refine ev_icmp_ge 42 dX11_arrival_19 (by decide) (fun c1 => ?_) (fun c1 => ?_)
  · replace hQ := hQ.1 c1
    refine ev_aload_n (ev_o 11 w2) dX11_arrival_42 rfl rfl ?_
    refine gf_11_20 dX11_arrival_43 kw_835 ?_
    refine ev_iload_n (u1) dX11_arrival_46 rfl ?_
    obtain ⟨h1, hQ⟩ := hQ
    refine ev_iaload dX11_arrival_47 h1 ?_
    refine ev_iconst (2) dX11_arrival_48 rfl ?_
    refine ev_icmp_ge 56 dX11_arrival_49 (by decide) (fun c2 => ?_) (fun c2 => ?_)
    · replace hQ := hQ.1 c2
      refine ev_aload_n (ev_o 11 w2) dX11_arrival_56 rfl rfl ?_
      refine gf_11_24 dX11_arrival_57 kw_840 ?_
      refine ev_iload_n (u1) dX11_arrival_60 rfl ?_
      refine ev_iaload dX11_arrival_61 h1 ?_
      exact ev_ireturn .int dX11_arrival_62 rfl rfl hQ
    · replace hQ := hQ.2 c2
      refine ev_iconst (-1) dX11_arrival_52 rfl ?_
      refine ev_goto 62 dX11_arrival_53 (by decide) ?_
      exact ev_ireturn .int dX11_arrival_62 rfl rfl hQ
  · replace hQ := hQ.2 c1
    refine ev_aload_n (ev_o 11 w2) dX11_arrival_22 rfl rfl ?_
    refine gf_11_20 dX11_arrival_23 kw_835 ?_
    refine ev_iload_n (u1) dX11_arrival_26 rfl ?_
    obtain ⟨h2, hQ⟩ := hQ
    refine ev_iaload dX11_arrival_27 h2 ?_
    refine ev_iconst (2) dX11_arrival_28 rfl ?_
    refine ev_icmp_ge 42 dX11_arrival_29 (by decide) (fun c3 => ?_) (fun c3 => ?_)
    · replace hQ := hQ.1 c3
      refine ev_aload_n (ev_o 11 w2) dX11_arrival_42 rfl rfl ?_
      refine gf_11_20 dX11_arrival_43 kw_835 ?_
      refine ev_iload_n (u1) dX11_arrival_46 rfl ?_
      refine ev_iaload dX11_arrival_47 h2 ?_
      refine ev_iconst (2) dX11_arrival_48 rfl ?_
      refine ev_icmp_ge 56 dX11_arrival_49 (by decide) (fun _ => ?_) (fun h9 => absurd c3 h9)
      refine ev_aload_n (ev_o 11 w2) dX11_arrival_56 rfl rfl ?_
      refine gf_11_24 dX11_arrival_57 kw_840 ?_
      refine ev_iload_n (u1) dX11_arrival_60 rfl ?_
      refine ev_iaload dX11_arrival_61 h2 ?_
      exact ev_ireturn .int dX11_arrival_62 rfl rfl hQ
    · replace hQ := hQ.2 c3
      refine ev_aload_n (ev_o 11 w2) dX11_arrival_32 rfl rfl ?_
      refine ev_cV mv_X11_passes 5 0 11 [] [] dX11_arrival_33 kw_1494 rfl (by decide) rfl (by decide) (by omega) (Nat.le_of_ble_eq_true rfl) hQ ?_ rfl
      rintro o S1 ⟨rfl, hQ⟩
      show ev_E g m_X11_arrival 6 B 36 [none, some (ev_i u1), some (ev_o 11 w2), some (ev_i u3)] [] S1 Q
      refine ev_iinc u3 (1) dX11_arrival_36 rfl (by decide) (ev_hw rfl) ?_
      show ev_E g m_X11_arrival 6 B 39 [none, some (ev_i u1), some (ev_o 11 w2), some (ev_i (u3 + 1))] [] S1 Q
      refine ev_goto 15 dX11_arrival_39 (by decide) ?_
      exact hQ
set_option maxHeartbeats 4000000 in
set_option maxRecDepth 100000 in
theorem sg_X11_fastest_0 {g : ev_G} {S : ev_S} {Q : ev_O → ev_S → Prop} {B : Nat} (a : Nat) (x0 : Int32) (hQ : ev_E g m_X11_fastest 7 B 12 [some (ev_o 11 a), some (ev_i x0), some (ev_i (-1)), some (ev_i 0), some (ev_i ((S.1 a 3) - 1)), none, none] [] S Q) : ev_Cv g m_X11_fastest 7 B [ev_o 11 a, ev_i x0] S Q := by
  refine ev_enter (by decide) rfl rfl (Nat.le_of_ble_eq_true rfl) ?_
  show ev_E g m_X11_fastest 7 B 0 [some (ev_o 11 a), some (ev_i x0), none, none, none, none, none] [] S Q
  refine ev_iconst (-1) dX11_fastest_0 rfl ?_
  refine ev_istore_n dX11_fastest_1 (Nat.le_of_ble_eq_true rfl) (ev_hw rfl) ?_
  show ev_E g m_X11_fastest 7 B 2 [some (ev_o 11 a), some (ev_i x0), some (ev_i (-1)), none, none, none, none] [] S Q
  refine ev_iconst (0) dX11_fastest_2 rfl ?_
  refine ev_istore_n dX11_fastest_3 (Nat.le_of_ble_eq_true rfl) (ev_hw rfl) ?_
  show ev_E g m_X11_fastest 7 B 4 [some (ev_o 11 a), some (ev_i x0), some (ev_i (-1)), some (ev_i 0), none, none, none] [] S Q
  refine ev_aload_n (ev_o 11 a) dX11_fastest_4 rfl rfl ?_
  refine gf_11_3 dX11_fastest_5 kw_803 ?_
  refine ev_iconst (1) dX11_fastest_8 rfl ?_
  refine ev_isub dX11_fastest_9 ?_
  refine ev_istore dX11_fastest_10 (Nat.le_of_ble_eq_true rfl) (ev_hw rfl) ?_
  show ev_E g m_X11_fastest 7 B 12 [some (ev_o 11 a), some (ev_i x0), some (ev_i (-1)), some (ev_i 0), some (ev_i ((S.1 a 3) - 1)), none, none] [] S Q
  exact hQ
set_option maxHeartbeats 4000000 in
set_option maxRecDepth 100000 in
theorem sg_X11_fastest_12 {g : ev_G} {S : ev_S} {Q : ev_O → ev_S → Prop} {B : Nat} (a : Nat) (u1 : Int32) (u2 : Int32) (u3 : Int32) (u4 : Int32) (hQ : (u4 < 0 → (
    Q (.inl (some (ev_i u2))) S)) ∧
  (¬ (u4 < 0) → (
    ev_Cv g m_X11_copy 2 360 [ev_o 11 a] S (fun o S1 => ∃ v1_ : Nat, o = .inl (some (ev_o 11 v1_)) ∧ (
      ev_Cv g m_X11_posts 1 0 [ev_o 11 v1_, ev_i u1, ev_i u4, ev_i 0, ev_i 1, ev_i 0, ev_i 0] S1 (fun o S2 => ∃ v2_ : Int32, o = .inl (some (ev_i v2_)) ∧ (
        ∀ S3 : ev_S, S3 = (ev_up S2 v1_ 32 v2_) → (
          ev_Cv g m_X11_arrival 6 360 [ev_o 11 v1_, ev_i v2_] S3 (fun o S4 => ∃ v3_ : Int32, o = .inl (some (ev_i v3_)) ∧ (
            (v3_ < 0 → (
              ev_E g m_X11_fastest 7 B 12 [some (ev_o 11 a), some (ev_i u1), some (ev_i u2), some (ev_i u3), some (ev_i (u4 + (-1))), none, none] [] S4 Q)) ∧
            (¬ (v3_ < 0) → (
              (u2 < 0 → (
                ev_E g m_X11_fastest 7 B 12 [some (ev_o 11 a), some (ev_i u1), some (ev_i u4), some (ev_i v3_), some (ev_i (u4 + (-1))), none, none] [] S4 Q)) ∧
              (¬ (u2 < 0) → (
                (v3_ ≤ u3 → (
                  ev_E g m_X11_fastest 7 B 12 [some (ev_o 11 a), some (ev_i u1), some (ev_i u4), some (ev_i v3_), some (ev_i (u4 + (-1))), none, none] [] S4 Q)) ∧
                (¬ (v3_ ≤ u3) → (
                  ev_E g m_X11_fastest 7 B 12 [some (ev_o 11 a), some (ev_i u1), some (ev_i u2), some (ev_i u3), some (ev_i (u4 + (-1))), none, none] [] S4 Q)))))))))))))))) : ev_E g m_X11_fastest 7 (B + 720) 12 [some (ev_o 11 a), some (ev_i u1), some (ev_i u2), some (ev_i u3), some (ev_i u4), none, none] [] S Q := by
  refine ev_iload (u4) dX11_fastest_12 rfl ?_
  refine ev_if_lt 82 dX11_fastest_14 (by decide) (fun c1 => ?_) (fun c1 => ?_)
  · replace hQ := hQ.1 c1
    refine ev_iload_n (u2) dX11_fastest_82 rfl ?_
    exact ev_ireturn .int dX11_fastest_83 rfl rfl hQ
  · replace hQ := hQ.2 c1
    refine ev_aload_n (ev_o 11 a) dX11_fastest_17 rfl rfl ?_
    refine ev_cV mv_X11_copy 2 360 11 [] [] dX11_fastest_18 kw_1493 rfl (by decide) rfl (by decide) (by omega) (Nat.le_of_ble_eq_true rfl) hQ ?_ rfl
    rintro o S1 ⟨v1_, rfl, hQ⟩
    show ev_E g m_X11_fastest 7 (B + 360) 21 [some (ev_o 11 a), some (ev_i u1), some (ev_i u2), some (ev_i u3), some (ev_i u4), none, none] [ev_o 11 v1_] S1 Q
    refine ev_astore dX11_fastest_21 rfl (Nat.le_of_ble_eq_true rfl) (ev_hw rfl) ?_
    show ev_E g m_X11_fastest 7 (B + 360) 23 [some (ev_o 11 a), some (ev_i u1), some (ev_i u2), some (ev_i u3), some (ev_i u4), some (ev_o 11 v1_), none] [] S1 Q
    refine ev_aload (ev_o 11 v1_) dX11_fastest_23 rfl rfl ?_
    refine ev_aload (ev_o 11 v1_) dX11_fastest_25 rfl rfl ?_
    refine ev_iload_n (u1) dX11_fastest_27 rfl ?_
    refine ev_iload (u4) dX11_fastest_28 rfl ?_
    refine ev_iconst (0) dX11_fastest_30 rfl ?_
    refine ev_iconst (1) dX11_fastest_31 rfl ?_
    refine ev_iconst (0) dX11_fastest_32 rfl ?_
    refine ev_iconst (0) dX11_fastest_33 rfl ?_
    refine ev_cV mv_X11_posts 1 0 11 [ev_i u1, ev_i u4, ev_i 0, ev_i 1, ev_i 0, ev_i 0] [ev_o 11 v1_] dX11_fastest_34 kw_1507 rfl (by decide) rfl (by decide) (by omega) (Nat.le_of_ble_eq_true rfl) hQ ?_ rfl
    rintro o S2 ⟨v2_, rfl, hQ⟩
    show ev_E g m_X11_fastest 7 (B + 360) 37 [some (ev_o 11 a), some (ev_i u1), some (ev_i u2), some (ev_i u3), some (ev_i u4), some (ev_o 11 v1_), none] [ev_i v2_, ev_o 11 v1_] S2 Q
    refine pf_11_32 dX11_fastest_37 kw_854 ?_
    refine ev_sub hQ (fun S3 hS3 hQ => ?_)
    refine ev_E.goal (pc' := 40) (L' := [some (ev_o 11 a), some (ev_i u1), some (ev_i u2), some (ev_i u3), some (ev_i u4), some (ev_o 11 v1_), none]) (K' := []) (S' := S3) ?_ rfl rfl rfl hS3
    refine ev_aload (ev_o 11 v1_) dX11_fastest_40 rfl rfl ?_
    refine ev_aload (ev_o 11 v1_) dX11_fastest_42 rfl rfl ?_
    refine gf_11_32 dX11_fastest_44 kw_854 ?_
    refine ev_ke (j_rs hS3) ?_
    refine ev_cV mv_X11_arrival 6 360 11 [ev_i v2_] [] dX11_fastest_47 kw_1511 rfl (by decide) rfl (by decide) (by omega) (Nat.le_of_ble_eq_true rfl) hQ ?_ rfl
    rintro o S4 ⟨v3_, rfl, hQ⟩
    show ev_E g m_X11_fastest 7 B 50 [some (ev_o 11 a), some (ev_i u1), some (ev_i u2), some (ev_i u3), some (ev_i u4), some (ev_o 11 v1_), none] [ev_i v3_] S4 Q
    refine ev_istore dX11_fastest_50 (Nat.le_of_ble_eq_true rfl) (ev_hw rfl) ?_
    show ev_E g m_X11_fastest 7 B 52 [some (ev_o 11 a), some (ev_i u1), some (ev_i u2), some (ev_i u3), some (ev_i u4), some (ev_o 11 v1_), some (ev_i v3_)] [] S4 Q
    refine ev_iload (v3_) dX11_fastest_52 rfl ?_
    refine ev_if_lt 76 dX11_fastest_54 (by decide) (fun c2 => ?_) (fun c2 => ?_)
    · replace hQ := hQ.1 c2
      refine ev_iinc u4 (-1) dX11_fastest_76 rfl (by decide) (ev_hw rfl) ?_
      show ev_E g m_X11_fastest 7 B 79 [some (ev_o 11 a), some (ev_i u1), some (ev_i u2), some (ev_i u3), some (ev_i (u4 + (-1))), some (ev_o 11 v1_), some (ev_i v3_)] [] S4 Q
      refine ev_goto 12 dX11_fastest_79 (by decide) ?_
      refine ev_fgm [true, true, true, true, true, false, false] ?_
      exact hQ
    · replace hQ := hQ.2 c2
      refine ev_iload_n (u2) dX11_fastest_57 rfl ?_
      refine ev_if_lt 70 dX11_fastest_58 (by decide) (fun c3 => ?_) (fun c3 => ?_)
      · replace hQ := hQ.1 c3
        refine ev_iload (u4) dX11_fastest_70 rfl ?_
        refine ev_istore_n dX11_fastest_72 (Nat.le_of_ble_eq_true rfl) (ev_hw rfl) ?_
        show ev_E g m_X11_fastest 7 B 73 [some (ev_o 11 a), some (ev_i u1), some (ev_i u4), some (ev_i u3), some (ev_i u4), some (ev_o 11 v1_), some (ev_i v3_)] [] S4 Q
        refine ev_iload (v3_) dX11_fastest_73 rfl ?_
        refine ev_istore_n dX11_fastest_75 (Nat.le_of_ble_eq_true rfl) (ev_hw rfl) ?_
        show ev_E g m_X11_fastest 7 B 76 [some (ev_o 11 a), some (ev_i u1), some (ev_i u4), some (ev_i v3_), some (ev_i u4), some (ev_o 11 v1_), some (ev_i v3_)] [] S4 Q
        refine ev_iinc u4 (-1) dX11_fastest_76 rfl (by decide) (ev_hw rfl) ?_
        show ev_E g m_X11_fastest 7 B 79 [some (ev_o 11 a), some (ev_i u1), some (ev_i u4), some (ev_i v3_), some (ev_i (u4 + (-1))), some (ev_o 11 v1_), some (ev_i v3_)] [] S4 Q
        refine ev_goto 12 dX11_fastest_79 (by decide) ?_
        refine ev_fgm [true, true, true, true, true, false, false] ?_
        exact hQ
      · replace hQ := hQ.2 c3
        refine ev_iload (v3_) dX11_fastest_61 rfl ?_
        refine ev_iload_n (u3) dX11_fastest_63 rfl ?_
        refine ev_icmp_le 70 dX11_fastest_64 (by decide) (fun c4 => ?_) (fun c4 => ?_)
        · replace hQ := hQ.1 c4
          refine ev_iload (u4) dX11_fastest_70 rfl ?_
          refine ev_istore_n dX11_fastest_72 (Nat.le_of_ble_eq_true rfl) (ev_hw rfl) ?_
          show ev_E g m_X11_fastest 7 B 73 [some (ev_o 11 a), some (ev_i u1), some (ev_i u4), some (ev_i u3), some (ev_i u4), some (ev_o 11 v1_), some (ev_i v3_)] [] S4 Q
          refine ev_iload (v3_) dX11_fastest_73 rfl ?_
          refine ev_istore_n dX11_fastest_75 (Nat.le_of_ble_eq_true rfl) (ev_hw rfl) ?_
          show ev_E g m_X11_fastest 7 B 76 [some (ev_o 11 a), some (ev_i u1), some (ev_i u4), some (ev_i v3_), some (ev_i u4), some (ev_o 11 v1_), some (ev_i v3_)] [] S4 Q
          refine ev_iinc u4 (-1) dX11_fastest_76 rfl (by decide) (ev_hw rfl) ?_
          show ev_E g m_X11_fastest 7 B 79 [some (ev_o 11 a), some (ev_i u1), some (ev_i u4), some (ev_i v3_), some (ev_i (u4 + (-1))), some (ev_o 11 v1_), some (ev_i v3_)] [] S4 Q
          refine ev_goto 12 dX11_fastest_79 (by decide) ?_
          refine ev_fgm [true, true, true, true, true, false, false] ?_
          exact hQ
        · replace hQ := hQ.2 c4
          refine ev_goto 76 dX11_fastest_67 (by decide) ?_
          refine ev_iinc u4 (-1) dX11_fastest_76 rfl (by decide) (ev_hw rfl) ?_
          show ev_E g m_X11_fastest 7 B 79 [some (ev_o 11 a), some (ev_i u1), some (ev_i u2), some (ev_i u3), some (ev_i (u4 + (-1))), some (ev_o 11 v1_), some (ev_i v3_)] [] S4 Q
          refine ev_goto 12 dX11_fastest_79 (by decide) ?_
          refine ev_fgm [true, true, true, true, true, false, false] ?_
          exact hQ
set_option maxHeartbeats 4000000 in
set_option maxRecDepth 100000 in
theorem sg_Jxf58ca_isNaN_12338_0 {g : ev_G} {S : ev_S} {Q : ev_O → ev_S → Prop} (x0 : UInt32) (hQ : ((j_fcmpl x0 x0) = 0 → (
    Q (.inl (some (ev_i 0))) S)) ∧
  (¬ ((j_fcmpl x0 x0) = 0) → (
    Q (.inl (some (ev_i 1))) S))) : ev_Cv g m_Jxf58ca_isNaN_12338 1 0 [ev_f x0] S Q := by
  refine ev_enter (by decide) rfl rfl (Nat.le_of_ble_eq_true rfl) ?_
  show ev_E g m_Jxf58ca_isNaN_12338 1 0 0 [some (ev_f x0)] [] S Q
  refine ev_fload_n (x0) dJxf58ca_isNaN_12338_0 rfl ?_
  refine ev_fload_n (x0) dJxf58ca_isNaN_12338_1 rfl ?_
  refine ev_fcmpl dJxf58ca_isNaN_12338_2 ?_
  refine ev_if_eq 10 dJxf58ca_isNaN_12338_3 (by decide) (fun c1 => ?_) (fun c1 => ?_)
  · replace hQ := hQ.1 c1
    refine ev_iconst (0) dJxf58ca_isNaN_12338_10 rfl ?_
    exact ev_ireturn .boolean dJxf58ca_isNaN_12338_11 rfl rfl hQ
  · replace hQ := hQ.2 c1
    refine ev_iconst (1) dJxf58ca_isNaN_12338_6 rfl ?_
    refine ev_goto 11 dJxf58ca_isNaN_12338_7 (by decide) ?_
    exact ev_ireturn .boolean dJxf58ca_isNaN_12338_11 rfl rfl hQ
set_option maxHeartbeats 4000000 in
set_option maxRecDepth 100000 in
theorem sp_Jxf58ca_isNaN_12338 {g : ev_G} {S : ev_S} (x0 : UInt32)  : ev_Fn g m_Jxf58ca_isNaN_12338 1 [ev_f x0] S (some (ev_i (if (j_fcmpl x0 x0) = 0 then 0 else 1))) S := by
  intro Q hQ
  refine sg_Jxf58ca_isNaN_12338_0 x0 ?_
  refine ⟨fun c1 => ?_, fun c1 => ?_⟩
  · rw [if_pos c1] at hQ
    exact hQ
  · rw [if_neg c1] at hQ
    exact hQ
set_option maxHeartbeats 4000000 in
set_option maxRecDepth 100000 in
theorem sg_Jxf58ca_floatToIntBits_5c35a_0 {g : ev_G} {S : ev_S} {Q : ev_O → ev_S → Prop} (x0 : UInt32) (hQ : ((j_fcmpl x0 x0) = 0 → (
    Q (.inl (some (ev_i x0.toInt32))) S)) ∧
  (¬ ((j_fcmpl x0 x0) = 0) → (
    Q (.inl (some (ev_i 2143289344))) S))) : ev_Cv g m_Jxf58ca_floatToIntBits_5c35a 2 0 [ev_f x0] S Q := by
  refine ev_enter (by decide) rfl rfl (Nat.le_of_ble_eq_true rfl) ?_
  show ev_E g m_Jxf58ca_floatToIntBits_5c35a 2 0 0 [some (ev_f x0)] [] S Q
  refine ev_fload_n (x0) dJxf58ca_floatToIntBits_5c35a_0 rfl ?_
  refine ev_fS ms_Jxf58ca_isNaN_12338 1 [ev_f x0] [] dJxf58ca_floatToIntBits_5c35a_1 kw_1337 rfl (by decide) (Nat.le_of_ble_eq_true rfl) (sp_Jxf58ca_isNaN_12338 x0) ?_ rfl
  by_cases c1 : (j_fcmpl x0 x0) = 0
  · rw [if_pos c1]
    replace hQ := hQ.1 c1
    refine ev_if_ne 12 dJxf58ca_floatToIntBits_5c35a_4 (by decide) (fun h9 => absurd (by decide : ((0 : Int32) = 0)) h9) (fun _ => ?_)
    refine ev_fload_n (x0) dJxf58ca_floatToIntBits_5c35a_7 rfl ?_
    refine ev_f2raw dJxf58ca_floatToIntBits_5c35a_8 kw_1340 kw_1342 kw_1341 kw_47 (Nat.le_of_ble_eq_true rfl) ?_
    exact ev_ireturn .int dJxf58ca_floatToIntBits_5c35a_11 rfl rfl hQ
  · rw [if_neg c1]
    replace hQ := hQ.2 c1
    refine ev_if_ne 12 dJxf58ca_floatToIntBits_5c35a_4 (by decide) (fun _ => ?_) (fun h9 => absurd h9 (by decide : ¬ ((1 : Int32) = 0)))
    refine ev_ldci (2143289344) dJxf58ca_floatToIntBits_5c35a_12 kw_1343 ?_
    exact ev_ireturn .int dJxf58ca_floatToIntBits_5c35a_14 rfl rfl hQ
def f_Jxf58ca_floatToIntBits_5c35a (x0 : UInt32) : Int32 := if (j_fcmpl x0 x0) = 0 then (x0.toInt32) else (2143289344)
set_option maxHeartbeats 4000000 in
set_option maxRecDepth 100000 in
theorem sp_Jxf58ca_floatToIntBits_5c35a {g : ev_G} {S : ev_S} (x0 : UInt32)  : ev_Fn g m_Jxf58ca_floatToIntBits_5c35a 2 [ev_f x0] S (some (ev_i (f_Jxf58ca_floatToIntBits_5c35a x0))) S := by
  intro Q hQ
  refine sg_Jxf58ca_floatToIntBits_5c35a_0 x0 ?_
  unfold f_Jxf58ca_floatToIntBits_5c35a at hQ
  refine ⟨fun c1 => ?_, fun c1 => ?_⟩
  · rw [if_pos c1] at hQ
    exact hQ
  · rw [if_neg c1] at hQ
    exact hQ
set_option maxHeartbeats 4000000 in
set_option maxRecDepth 100000 in
theorem sg_L_cell_0 {g : ev_G} {S : ev_S} {Q : ev_O → ev_S → Prop} (k0 : Nat) (x1 : Int32) (hQ : ((Int32.ofNat (ev_sl g)) = 0 → (
    Q (.inl (some (ev_i 0))) S)) ∧
  (¬ ((Int32.ofNat (ev_sl g)) = 0) → (
    (¬ (Int32.ofNat (ev_sl g)) = 0) ∧ (
      (vp_in (ev_rem x1 (Int32.ofNat (ev_sl g))) (ev_sl g)) ∧ (
        Q (.inl (some (ev_i ((ev_sx g (ev_rem x1 (Int32.ofNat (ev_sl g))).toNatClampNeg) ^^^ (40503 * (x1 / (Int32.ofNat (ev_sl g)))))))) S))))) : ev_Cv g m_L_cell 1 0 [ev_x 0 k0, ev_i x1] S Q := by
  refine ev_enter (by decide) rfl rfl (Nat.le_of_ble_eq_true rfl) ?_
  show ev_E g m_L_cell 1 0 0 [some (ev_x 0 k0), some (ev_i x1)] [] S Q
  refine ev_aload_n (ev_x 0 k0) dL_cell_0 rfl rfl ?_
  refine ev_slen dL_cell_1 ?_
  refine ev_if_ne 9 dL_cell_2 (by decide) (fun c1 => ?_) (fun c1 => ?_)
  · replace hQ := hQ.2 c1
    refine ev_aload_n (ev_x 0 k0) dL_cell_9 rfl rfl ?_
    refine ev_iload_n (x1) dL_cell_10 rfl ?_
    refine ev_aload_n (ev_x 0 k0) dL_cell_11 rfl rfl ?_
    refine ev_slen dL_cell_12 ?_
    obtain ⟨h1, hQ⟩ := hQ
    refine ev_irem dL_cell_13 h1 ?_
    obtain ⟨h2, hQ⟩ := hQ
    refine ev_sld dL_cell_14 h2 ?_
    refine ev_ldci (40503) dL_cell_15 kw_942 ?_
    refine ev_iload_n (x1) dL_cell_17 rfl ?_
    refine ev_aload_n (ev_x 0 k0) dL_cell_18 rfl rfl ?_
    refine ev_slen dL_cell_19 ?_
    refine ev_idiv dL_cell_20 h1 ?_
    refine ev_imul dL_cell_21 ?_
    refine ev_ixor dL_cell_22 ?_
    exact ev_ireturn .int dL_cell_23 rfl rfl hQ
  · replace hQ := hQ.1 c1
    refine ev_iconst (0) dL_cell_5 rfl ?_
    refine ev_goto 23 dL_cell_6 (by decide) ?_
    exact ev_ireturn .int dL_cell_23 rfl rfl hQ
def f_L_cell (k0 : Nat) (x1 : Int32) : Int32 := if (Int32.ofNat (ev_sl g)) = 0 then (0) else (((ev_sx g (ev_rem x1 (Int32.ofNat (ev_sl g))).toNatClampNeg) ^^^ (40503 * (x1 / (Int32.ofNat (ev_sl g))))))
set_option maxHeartbeats 4000000 in
set_option maxRecDepth 100000 in
theorem sp_L_cell {g : ev_G} {S : ev_S} (k0 : Nat) (x1 : Int32) (q0 : ¬ ((Int32.ofNat (ev_sl g)) = 0) → ¬ (Int32.ofNat (ev_sl g)) = 0) (q1 : ¬ ((Int32.ofNat (ev_sl g)) = 0) → vp_in (ev_rem x1 (Int32.ofNat (ev_sl g))) (ev_sl g)) : ev_Fn g m_L_cell 1 [ev_x 0 k0, ev_i x1] S (some (ev_i (f_L_cell k0 x1))) S := by
  intro Q hQ
  refine sg_L_cell_0 k0 x1 ?_
  unfold f_L_cell at hQ
  refine ⟨fun c1 => ?_, fun c1 => ?_⟩
  · rw [if_pos c1] at hQ
    exact hQ
  · rw [if_neg c1] at hQ
    refine ⟨(q0 c1), ?_⟩
    refine ⟨(q1 c1), ?_⟩
    exact hQ
set_option maxHeartbeats 4000000 in
set_option maxRecDepth 100000 in
theorem sg_L_pick_0 {g : ev_G} {S : ev_S} {Q : ev_O → ev_S → Prop} (k0 : Nat) (x1 : Int32) (x2 : Int32) (hQ : (¬ ((Int32.ofNat (ev_sl g)) = 0) → ¬ (Int32.ofNat (ev_sl g)) = 0) ∧ (
    (¬ ((Int32.ofNat (ev_sl g)) = 0) → vp_in (ev_rem x1 (Int32.ofNat (ev_sl g))) (ev_sl g)) ∧ (
      (¬ x2 = 0) ∧ (
        Q (.inl (some (ev_i (ev_rem ((f_L_cell k0 x1) &&& 65535) x2)))) S)))) : ev_Cv g m_L_pick 2 0 [ev_x 0 k0, ev_i x1, ev_i x2] S Q := by
  refine ev_enter (by decide) rfl rfl (Nat.le_of_ble_eq_true rfl) ?_
  show ev_E g m_L_pick 2 0 0 [some (ev_x 0 k0), some (ev_i x1), some (ev_i x2)] [] S Q
  refine ev_aload_n (ev_x 0 k0) dL_pick_0 rfl rfl ?_
  refine ev_iload_n (x1) dL_pick_1 rfl ?_
  obtain ⟨h1, hQ⟩ := hQ
  obtain ⟨h2, hQ⟩ := hQ
  refine ev_fS ms_L_cell 1 [ev_x 0 k0, ev_i x1] [] dL_pick_2 kw_939 rfl (by decide) (Nat.le_of_ble_eq_true rfl) (sp_L_cell k0 x1 h1 h2) ?_ rfl
  refine ev_ldci (65535) dL_pick_5 kw_943 ?_
  refine ev_iand dL_pick_7 ?_
  refine ev_iload_n (x2) dL_pick_8 rfl ?_
  obtain ⟨h3, hQ⟩ := hQ
  refine ev_irem dL_pick_9 h3 ?_
  exact ev_ireturn .int dL_pick_10 rfl rfl hQ
set_option maxHeartbeats 4000000 in
set_option maxRecDepth 100000 in
theorem sp_L_pick {g : ev_G} {S : ev_S} (k0 : Nat) (x1 : Int32) (x2 : Int32) (q0 : ¬ ((Int32.ofNat (ev_sl g)) = 0) → ¬ (Int32.ofNat (ev_sl g)) = 0) (q1 : ¬ ((Int32.ofNat (ev_sl g)) = 0) → vp_in (ev_rem x1 (Int32.ofNat (ev_sl g))) (ev_sl g)) (q2 : ¬ x2 = 0) : ev_Fn g m_L_pick 2 [ev_x 0 k0, ev_i x1, ev_i x2] S (some (ev_i (ev_rem ((f_L_cell k0 x1) &&& 65535) x2))) S := by
  intro Q hQ
  refine sg_L_pick_0 k0 x1 x2 ?_
  refine ⟨(q0), ?_⟩
  refine ⟨(q1), ?_⟩
  refine ⟨(q2), ?_⟩
  exact hQ
set_option maxHeartbeats 4000000 in
set_option maxRecDepth 100000 in
theorem sg_L_some_0 {g : ev_G} {S : ev_S} {Q : ev_O → ev_S → Prop} (b0 : Nat) (b1 : Nat) (x2 : Int32) (x3 : Int32) (hQ : ev_E g m_L_some 2 0 6 [some (ev_o 11 b0), some (ev_o 10 b1), some (ev_i x2), some (ev_i x3), some (ev_i 0), some (ev_i 0), none, none] [] S Q) : ev_Cv g m_L_some 2 0 [ev_o 11 b0, ev_o 10 b1, ev_i x2, ev_i x3] S Q := by
  refine ev_enter (by decide) rfl rfl (Nat.le_of_ble_eq_true rfl) ?_
  show ev_E g m_L_some 2 0 0 [some (ev_o 11 b0), some (ev_o 10 b1), some (ev_i x2), some (ev_i x3), none, none, none, none] [] S Q
  refine ev_iconst (0) dL_some_0 rfl ?_
  refine ev_istore dL_some_1 (Nat.le_of_ble_eq_true rfl) (ev_hw rfl) ?_
  show ev_E g m_L_some 2 0 3 [some (ev_o 11 b0), some (ev_o 10 b1), some (ev_i x2), some (ev_i x3), some (ev_i 0), none, none, none] [] S Q
  refine ev_iconst (0) dL_some_3 rfl ?_
  refine ev_istore dL_some_4 (Nat.le_of_ble_eq_true rfl) (ev_hw rfl) ?_
  show ev_E g m_L_some 2 0 6 [some (ev_o 11 b0), some (ev_o 10 b1), some (ev_i x2), some (ev_i x3), some (ev_i 0), some (ev_i 0), none, none] [] S Q
  exact hQ
set_option maxHeartbeats 4000000 in
set_option maxRecDepth 100000 in
theorem sg_L_some_6 {g : ev_G} {S : ev_S} {Q : ev_O → ev_S → Prop} (b0 : Nat) (b1 : Nat) (u2 : Int32) (u3 : Int32) (u4 : Int32) (u5 : Int32) (hQ : (((S.1 b0 0) * (S.1 b0 0)) ≤ u5 → (
    (u4 = 0 → (
      Q (.inl (some (ev_i (-1)))) S)) ∧
    (¬ (u4 = 0) → (
      (¬ u4 = 0) ∧ (
        ev_E g m_L_some 2 0 101 [some (ev_o 11 b0), some (ev_o 10 b1), some (ev_i u2), none, none, some (ev_i (ev_rem u3 u4)), some (ev_i 0), none] [] S Q))))) ∧
  (¬ (((S.1 b0 0) * (S.1 b0 0)) ≤ u5) → (
    ev_E g m_L_some 2 0 23 [some (ev_o 11 b0), some (ev_o 10 b1), some (ev_i u2), some (ev_i u3), some (ev_i u4), some (ev_i u5), some (ev_i 0), none] [] S Q))) : ev_E g m_L_some 2 0 6 [some (ev_o 11 b0), some (ev_o 10 b1), some (ev_i u2), some (ev_i u3), some (ev_i u4), some (ev_i u5), none, none] [] S Q := by
  refine ev_iload (u5) dL_some_6 rfl ?_
  refine ev_aload_n (ev_o 11 b0) dL_some_8 rfl rfl ?_
  refine gn_11_0 dL_some_9 (List.mem_of_getElem? (i := 21) rfl) ?_
  refine ev_aload_n (ev_o 11 b0) dL_some_12 rfl rfl ?_
  refine gn_11_0 dL_some_13 (List.mem_of_getElem? (i := 21) rfl) ?_
  refine ev_imul dL_some_16 ?_
  refine ev_icmp_ge 85 dL_some_17 (by decide) (fun c1 => ?_) (fun c1 => ?_)
  · replace hQ := hQ.1 c1
    refine ev_iload (u4) dL_some_85 rfl ?_
    refine ev_if_ne 92 dL_some_87 (by decide) (fun c2 => ?_) (fun c2 => ?_)
    · replace hQ := hQ.2 c2
      refine ev_iload_n (u3) dL_some_92 rfl ?_
      refine ev_iload (u4) dL_some_93 rfl ?_
      obtain ⟨h1, hQ⟩ := hQ
      refine ev_irem dL_some_95 h1 ?_
      refine ev_istore dL_some_96 (Nat.le_of_ble_eq_true rfl) (ev_hw rfl) ?_
      show ev_E g m_L_some 2 0 98 [some (ev_o 11 b0), some (ev_o 10 b1), some (ev_i u2), some (ev_i u3), some (ev_i u4), some (ev_i (ev_rem u3 u4)), none, none] [] S Q
      refine ev_iconst (0) dL_some_98 rfl ?_
      refine ev_istore dL_some_99 (Nat.le_of_ble_eq_true rfl) (ev_hw rfl) ?_
      show ev_E g m_L_some 2 0 101 [some (ev_o 11 b0), some (ev_o 10 b1), some (ev_i u2), some (ev_i u3), some (ev_i u4), some (ev_i (ev_rem u3 u4)), some (ev_i 0), none] [] S Q
      refine ev_fgm [true, true, true, false, false, true, true, false] ?_
      exact hQ
    · replace hQ := hQ.1 c2
      refine ev_iconst (-1) dL_some_90 rfl ?_
      exact ev_ireturn .int dL_some_91 rfl rfl hQ
  · replace hQ := hQ.2 c1
    refine ev_iconst (0) dL_some_20 rfl ?_
    refine ev_istore dL_some_21 (Nat.le_of_ble_eq_true rfl) (ev_hw rfl) ?_
    show ev_E g m_L_some 2 0 23 [some (ev_o 11 b0), some (ev_o 10 b1), some (ev_i u2), some (ev_i u3), some (ev_i u4), some (ev_i u5), some (ev_i 0), none] [] S Q
    exact hQ
set_option maxHeartbeats 4000000 in
set_option maxRecDepth 100000 in
theorem sg_L_some_101 {g : ev_G} {S : ev_S} {Q : ev_O → ev_S → Prop} (b0 : Nat) (b1 : Nat) (u2 : Int32) (u5 : Int32) (u6 : Int32) (hQ : (((S.1 b0 0) * (S.1 b0 0)) ≤ u6 → (
    Q (.inl (some (ev_i (-1)))) S)) ∧
  (¬ (((S.1 b0 0) * (S.1 b0 0)) ≤ u6) → (
    ev_E g m_L_some 2 0 118 [some (ev_o 11 b0), some (ev_o 10 b1), some (ev_i u2), none, none, some (ev_i u5), some (ev_i u6), some (ev_i 0)] [] S Q))) : ev_E g m_L_some 2 0 101 [some (ev_o 11 b0), some (ev_o 10 b1), some (ev_i u2), none, none, some (ev_i u5), some (ev_i u6), none] [] S Q := by
  refine ev_iload (u6) dL_some_101 rfl ?_
  refine ev_aload_n (ev_o 11 b0) dL_some_103 rfl rfl ?_
  refine gn_11_0 dL_some_104 (List.mem_of_getElem? (i := 21) rfl) ?_
  refine ev_aload_n (ev_o 11 b0) dL_some_107 rfl rfl ?_
  refine gn_11_0 dL_some_108 (List.mem_of_getElem? (i := 21) rfl) ?_
  refine ev_imul dL_some_111 ?_
  refine ev_icmp_ge 190 dL_some_112 (by decide) (fun c1 => ?_) (fun c1 => ?_)
  · replace hQ := hQ.1 c1
    refine ev_iconst (-1) dL_some_190 rfl ?_
    exact ev_ireturn .int dL_some_191 rfl rfl hQ
  · replace hQ := hQ.2 c1
    refine ev_iconst (0) dL_some_115 rfl ?_
    refine ev_istore dL_some_116 (Nat.le_of_ble_eq_true rfl) (ev_hw rfl) ?_
    show ev_E g m_L_some 2 0 118 [some (ev_o 11 b0), some (ev_o 10 b1), some (ev_i u2), none, none, some (ev_i u5), some (ev_i u6), some (ev_i 0)] [] S Q
    exact hQ
set_option maxHeartbeats 4000000 in
set_option maxRecDepth 100000 in
theorem sg_L_some_23 {g : ev_G} {S : ev_S} {Q : ev_O → ev_S → Prop} (b0 : Nat) (b1 : Nat) (u2 : Int32) (u3 : Int32) (u4 : Int32) (u5 : Int32) (u6 : Int32) (hQ : (((S.1 b0 0) * (S.1 b0 0)) ≤ u6 → (
    ev_E g m_L_some 2 0 6 [some (ev_o 11 b0), some (ev_o 10 b1), some (ev_i u2), some (ev_i u3), some (ev_i u4), some (ev_i (u5 + 1)), none, none] [] S Q)) ∧
  (¬ (((S.1 b0 0) * (S.1 b0 0)) ≤ u6) → (
    (vp_in u5 64) ∧ (
      ((S.1 (b1 + 1) u5.toNatClampNeg) = u2 → (
        ev_Cv g m_X10_canGo 1 0 [ev_o 10 b1, ev_i (S.1 b0 0), ev_i u5, ev_i u6] S (fun o S1 => ∃ v1_ : Bool, o = .inl (some (ev_i (if v1_ = true then 1 else 0))) ∧ (
          (v1_ = true → (
            ev_E g m_L_some 2 0 23 [some (ev_o 11 b0), some (ev_o 10 b1), some (ev_i u2), some (ev_i u3), some (ev_i (u4 + 1)), some (ev_i u5), some (ev_i (u6 + 1)), none] [] S1 Q)) ∧
          (¬ (v1_ = true) → (
            ev_E g m_L_some 2 0 23 [some (ev_o 11 b0), some (ev_o 10 b1), some (ev_i u2), some (ev_i u3), some (ev_i (u4 + 0)), some (ev_i u5), some (ev_i (u6 + 1)), none] [] S1 Q)))))) ∧
      (¬ ((S.1 (b1 + 1) u5.toNatClampNeg) = u2) → (
        ev_E g m_L_some 2 0 6 [some (ev_o 11 b0), some (ev_o 10 b1), some (ev_i u2), some (ev_i u3), some (ev_i u4), some (ev_i (u5 + 1)), none, none] [] S Q)))))) : ev_E g m_L_some 2 0 23 [some (ev_o 11 b0), some (ev_o 10 b1), some (ev_i u2), some (ev_i u3), some (ev_i u4), some (ev_i u5), some (ev_i u6), none] [] S Q := by
  refine ev_iload (u6) dL_some_23 rfl ?_
  refine ev_aload_n (ev_o 11 b0) dL_some_25 rfl rfl ?_
  refine gn_11_0 dL_some_26 (List.mem_of_getElem? (i := 21) rfl) ?_
  refine ev_aload_n (ev_o 11 b0) dL_some_29 rfl rfl ?_
  refine gn_11_0 dL_some_30 (List.mem_of_getElem? (i := 21) rfl) ?_
  refine ev_imul dL_some_33 ?_
  refine ev_icmp_ge 79 dL_some_34 (by decide) (fun c1 => ?_) (fun c1 => ?_)
  · replace hQ := hQ.1 c1
    refine ev_iinc u5 (1) dL_some_79 rfl (by decide) (ev_hw rfl) ?_
    show ev_E g m_L_some 2 0 82 [some (ev_o 11 b0), some (ev_o 10 b1), some (ev_i u2), some (ev_i u3), some (ev_i u4), some (ev_i (u5 + 1)), some (ev_i u6), none] [] S Q
    refine ev_goto 6 dL_some_82 (by decide) ?_
    refine ev_fgm [true, true, true, true, true, true, false, false] ?_
    exact hQ
  · replace hQ := hQ.2 c1
    refine ev_aload_n (ev_o 10 b1) dL_some_37 rfl rfl ?_
    refine gn_10_0 dL_some_38 (List.mem_of_getElem? (i := 0) rfl) ?_
    refine ev_iload (u5) dL_some_41 rfl ?_
    obtain ⟨h1, hQ⟩ := hQ
    refine ev_iaload dL_some_43 h1 ?_
    refine ev_iload_n (u2) dL_some_44 rfl ?_
    refine ev_icmp_ne 79 dL_some_45 (by decide) (fun c2 => ?_) (fun c2 => ?_)
    · replace hQ := hQ.2 c2
      refine ev_iinc u5 (1) dL_some_79 rfl (by decide) (ev_hw rfl) ?_
      show ev_E g m_L_some 2 0 82 [some (ev_o 11 b0), some (ev_o 10 b1), some (ev_i u2), some (ev_i u3), some (ev_i u4), some (ev_i (u5 + 1)), some (ev_i u6), none] [] S Q
      refine ev_goto 6 dL_some_82 (by decide) ?_
      refine ev_fgm [true, true, true, true, true, true, false, false] ?_
      exact hQ
    · replace hQ := hQ.1 c2
      refine ev_iload (u4) dL_some_48 rfl ?_
      refine ev_aload_n (ev_o 10 b1) dL_some_50 rfl rfl ?_
      refine ev_aload_n (ev_o 11 b0) dL_some_51 rfl rfl ?_
      refine gn_11_0 dL_some_52 (List.mem_of_getElem? (i := 21) rfl) ?_
      refine ev_iload (u5) dL_some_55 rfl ?_
      refine ev_iload (u6) dL_some_57 rfl ?_
      refine ev_cV mv_X10_canGo 1 0 10 [ev_i (S.1 b0 0), ev_i u5, ev_i u6] [ev_i u4] dL_some_59 kw_1347 rfl (by decide) rfl (by decide) (by decide) (Nat.le_of_ble_eq_true rfl) hQ ?_ rfl
      rintro o S1 ⟨v1_, rfl, hQ⟩
      show ev_E g m_L_some 2 0 62 [some (ev_o 11 b0), some (ev_o 10 b1), some (ev_i u2), some (ev_i u3), some (ev_i u4), some (ev_i u5), some (ev_i u6), none] [ev_i (if v1_ = true then 1 else 0), ev_i u4] S1 Q
      by_cases c3 : v1_ = true
      · rw [if_pos c3]
        replace hQ := hQ.1 c3
        refine ev_if_eq 69 dL_some_62 (by decide) (fun h9 => absurd h9 (by decide : ¬ ((1 : Int32) = 0))) (fun _ => ?_)
        refine ev_iconst (1) dL_some_65 rfl ?_
        refine ev_goto 70 dL_some_66 (by decide) ?_
        refine ev_iadd dL_some_70 ?_
        refine ev_istore dL_some_71 (Nat.le_of_ble_eq_true rfl) (ev_hw rfl) ?_
        show ev_E g m_L_some 2 0 73 [some (ev_o 11 b0), some (ev_o 10 b1), some (ev_i u2), some (ev_i u3), some (ev_i (u4 + 1)), some (ev_i u5), some (ev_i u6), none] [] S1 Q
        refine ev_iinc u6 (1) dL_some_73 rfl (by decide) (ev_hw rfl) ?_
        show ev_E g m_L_some 2 0 76 [some (ev_o 11 b0), some (ev_o 10 b1), some (ev_i u2), some (ev_i u3), some (ev_i (u4 + 1)), some (ev_i u5), some (ev_i (u6 + 1)), none] [] S1 Q
        refine ev_goto 23 dL_some_76 (by decide) ?_
        exact hQ
      · rw [if_neg c3]
        replace hQ := hQ.2 c3
        refine ev_if_eq 69 dL_some_62 (by decide) (fun _ => ?_) (fun h9 => absurd (by decide : ((0 : Int32) = 0)) h9)
        refine ev_iconst (0) dL_some_69 rfl ?_
        refine ev_iadd dL_some_70 ?_
        refine ev_istore dL_some_71 (Nat.le_of_ble_eq_true rfl) (ev_hw rfl) ?_
        show ev_E g m_L_some 2 0 73 [some (ev_o 11 b0), some (ev_o 10 b1), some (ev_i u2), some (ev_i u3), some (ev_i (u4 + 0)), some (ev_i u5), some (ev_i u6), none] [] S1 Q
        refine ev_iinc u6 (1) dL_some_73 rfl (by decide) (ev_hw rfl) ?_
        show ev_E g m_L_some 2 0 76 [some (ev_o 11 b0), some (ev_o 10 b1), some (ev_i u2), some (ev_i u3), some (ev_i (u4 + 0)), some (ev_i u5), some (ev_i (u6 + 1)), none] [] S1 Q
        refine ev_goto 23 dL_some_76 (by decide) ?_
        exact hQ
set_option maxHeartbeats 4000000 in
set_option maxRecDepth 100000 in
theorem sg_L_some_118 {g : ev_G} {S : ev_S} {Q : ev_O → ev_S → Prop} (b0 : Nat) (b1 : Nat) (u2 : Int32) (u5 : Int32) (u6 : Int32) (u7 : Int32) (hQ : (((S.1 b0 0) * (S.1 b0 0)) ≤ u7 → (
    ev_E g m_L_some 2 0 101 [some (ev_o 11 b0), some (ev_o 10 b1), some (ev_i u2), none, none, some (ev_i u5), some (ev_i (u6 + 1)), none] [] S Q)) ∧
  (¬ (((S.1 b0 0) * (S.1 b0 0)) ≤ u7) → (
    (vp_in u6 64) ∧ (
      ((S.1 (b1 + 1) u6.toNatClampNeg) = u2 → (
        ev_Cv g m_X10_canGo 1 0 [ev_o 10 b1, ev_i (S.1 b0 0), ev_i u6, ev_i u7] S (fun o S1 => ∃ v1_ : Bool, o = .inl (some (ev_i (if v1_ = true then 1 else 0))) ∧ (
          (v1_ = true → (
            (u5 = 0 → (
              Q (.inl (some (ev_i ((64 * u6) + u7)))) S1)) ∧
            (¬ (u5 = 0) → (
              ev_E g m_L_some 2 0 118 [some (ev_o 11 b0), some (ev_o 10 b1), some (ev_i u2), none, none, some (ev_i (u5 + (-1))), some (ev_i u6), some (ev_i (u7 + 1))] [] S1 Q)))) ∧
          (¬ (v1_ = true) → (
            ev_E g m_L_some 2 0 118 [some (ev_o 11 b0), some (ev_o 10 b1), some (ev_i u2), none, none, some (ev_i u5), some (ev_i u6), some (ev_i (u7 + 1))] [] S1 Q)))))) ∧
      (¬ ((S.1 (b1 + 1) u6.toNatClampNeg) = u2) → (
        ev_E g m_L_some 2 0 101 [some (ev_o 11 b0), some (ev_o 10 b1), some (ev_i u2), none, none, some (ev_i u5), some (ev_i (u6 + 1)), none] [] S Q)))))) : ev_E g m_L_some 2 0 118 [some (ev_o 11 b0), some (ev_o 10 b1), some (ev_i u2), none, none, some (ev_i u5), some (ev_i u6), some (ev_i u7)] [] S Q := by
  refine ev_iload (u7) dL_some_118 rfl ?_
  refine ev_aload_n (ev_o 11 b0) dL_some_120 rfl rfl ?_
  refine gn_11_0 dL_some_121 (List.mem_of_getElem? (i := 21) rfl) ?_
  refine ev_aload_n (ev_o 11 b0) dL_some_124 rfl rfl ?_
  refine gn_11_0 dL_some_125 (List.mem_of_getElem? (i := 21) rfl) ?_
  refine ev_imul dL_some_128 ?_
  refine ev_icmp_ge 184 dL_some_129 (by decide) (fun c1 => ?_) (fun c1 => ?_)
  · replace hQ := hQ.1 c1
    refine ev_iinc u6 (1) dL_some_184 rfl (by decide) (ev_hw rfl) ?_
    show ev_E g m_L_some 2 0 187 [some (ev_o 11 b0), some (ev_o 10 b1), some (ev_i u2), none, none, some (ev_i u5), some (ev_i (u6 + 1)), some (ev_i u7)] [] S Q
    refine ev_goto 101 dL_some_187 (by decide) ?_
    refine ev_fgm [true, true, true, false, false, true, true, false] ?_
    exact hQ
  · replace hQ := hQ.2 c1
    refine ev_aload_n (ev_o 10 b1) dL_some_132 rfl rfl ?_
    refine gn_10_0 dL_some_133 (List.mem_of_getElem? (i := 0) rfl) ?_
    refine ev_iload (u6) dL_some_136 rfl ?_
    obtain ⟨h1, hQ⟩ := hQ
    refine ev_iaload dL_some_138 h1 ?_
    refine ev_iload_n (u2) dL_some_139 rfl ?_
    refine ev_icmp_ne 184 dL_some_140 (by decide) (fun c2 => ?_) (fun c2 => ?_)
    · replace hQ := hQ.2 c2
      refine ev_iinc u6 (1) dL_some_184 rfl (by decide) (ev_hw rfl) ?_
      show ev_E g m_L_some 2 0 187 [some (ev_o 11 b0), some (ev_o 10 b1), some (ev_i u2), none, none, some (ev_i u5), some (ev_i (u6 + 1)), some (ev_i u7)] [] S Q
      refine ev_goto 101 dL_some_187 (by decide) ?_
      refine ev_fgm [true, true, true, false, false, true, true, false] ?_
      exact hQ
    · replace hQ := hQ.1 c2
      refine ev_aload_n (ev_o 10 b1) dL_some_143 rfl rfl ?_
      refine ev_aload_n (ev_o 11 b0) dL_some_144 rfl rfl ?_
      refine gn_11_0 dL_some_145 (List.mem_of_getElem? (i := 21) rfl) ?_
      refine ev_iload (u6) dL_some_148 rfl ?_
      refine ev_iload (u7) dL_some_150 rfl ?_
      refine ev_cV mv_X10_canGo 1 0 10 [ev_i (S.1 b0 0), ev_i u6, ev_i u7] [] dL_some_152 kw_1347 rfl (by decide) rfl (by decide) (by decide) (Nat.le_of_ble_eq_true rfl) hQ ?_ rfl
      rintro o S1 ⟨v1_, rfl, hQ⟩
      show ev_E g m_L_some 2 0 155 [some (ev_o 11 b0), some (ev_o 10 b1), some (ev_i u2), none, none, some (ev_i u5), some (ev_i u6), some (ev_i u7)] [ev_i (if v1_ = true then 1 else 0)] S1 Q
      by_cases c3 : v1_ = true
      · rw [if_pos c3]
        replace hQ := hQ.1 c3
        refine ev_if_ne 161 dL_some_155 (by decide) (fun _ => ?_) (fun h9 => absurd h9 (by decide : ¬ ((1 : Int32) = 0)))
        refine ev_iload (u5) dL_some_161 rfl ?_
        refine ev_if_ne 175 dL_some_163 (by decide) (fun c4 => ?_) (fun c4 => ?_)
        · replace hQ := hQ.2 c4
          refine ev_iinc u5 (-1) dL_some_175 rfl (by decide) (ev_hw rfl) ?_
          show ev_E g m_L_some 2 0 178 [some (ev_o 11 b0), some (ev_o 10 b1), some (ev_i u2), none, none, some (ev_i (u5 + (-1))), some (ev_i u6), some (ev_i u7)] [] S1 Q
          refine ev_iinc u7 (1) dL_some_178 rfl (by decide) (ev_hw rfl) ?_
          show ev_E g m_L_some 2 0 181 [some (ev_o 11 b0), some (ev_o 10 b1), some (ev_i u2), none, none, some (ev_i (u5 + (-1))), some (ev_i u6), some (ev_i (u7 + 1))] [] S1 Q
          refine ev_goto 118 dL_some_181 (by decide) ?_
          exact hQ
        · replace hQ := hQ.1 c4
          refine ev_bipush (64) dL_some_166 (by decide) ?_
          refine ev_iload (u6) dL_some_168 rfl ?_
          refine ev_imul dL_some_170 ?_
          refine ev_iload (u7) dL_some_171 rfl ?_
          refine ev_iadd dL_some_173 ?_
          exact ev_ireturn .int dL_some_174 rfl rfl hQ
      · rw [if_neg c3]
        replace hQ := hQ.2 c3
        refine ev_if_ne 161 dL_some_155 (by decide) (fun h9 => absurd (by decide : ((0 : Int32) = 0)) h9) (fun _ => ?_)
        refine ev_goto 178 dL_some_158 (by decide) ?_
        refine ev_iinc u7 (1) dL_some_178 rfl (by decide) (ev_hw rfl) ?_
        show ev_E g m_L_some 2 0 181 [some (ev_o 11 b0), some (ev_o 10 b1), some (ev_i u2), none, none, some (ev_i u5), some (ev_i u6), some (ev_i (u7 + 1))] [] S1 Q
        refine ev_goto 118 dL_some_181 (by decide) ?_
        exact hQ
