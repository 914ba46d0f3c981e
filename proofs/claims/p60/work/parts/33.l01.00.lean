set_option maxHeartbeats 4000000 in
set_option maxRecDepth 100000 in
theorem sg_X11_passes_0 {g : ev_G} {S : ev_S} {Q : ev_O → ev_S → Prop} (a : Nat) (hQ : ∀ S1 : ev_S, S1 = (ev_up S a 2 ((S.1 a 2) + 1)) → (
    ev_E g m_X11_passes 5 0 17 [some (ev_o 11 a), some (ev_i (S.1 a 6)), some (ev_i 1), none] [] S1 Q)) : ev_Cv g m_X11_passes 5 0 [ev_o 11 a] S Q := by
  refine ev_enter (by decide) rfl rfl (Nat.le_of_ble_eq_true rfl) ?_
  show ev_E g m_X11_passes 5 0 0 [some (ev_o 11 a), none, none, none] [] S Q
  refine ev_aload_n (ev_o 11 a) dX11_passes_0 rfl rfl ?_
  refine ev_dup dX11_passes_1 rfl ?_
  refine gf_11_2 dX11_passes_2 kw_801 ?_
  refine ev_iconst (1) dX11_passes_5 rfl ?_
  refine ev_iadd dX11_passes_6 ?_
  refine pf_11_2 dX11_passes_7 kw_801 ?_
  refine ev_sub hQ (fun S1 hS1 hQ => ?_)
  refine ev_E.goal (pc' := 10) (L' := [some (ev_o 11 a), none, none, none]) (K' := []) (S' := S1) ?_ rfl rfl rfl hS1
  refine ev_aload_n (ev_o 11 a) dX11_passes_10 rfl rfl ?_
  refine gf_11_6 dX11_passes_11 kw_809 ?_
  refine ev_ke (j_rk hS1 (Or.inr (by decide))) ?_
  refine ev_istore_n dX11_passes_14 (Nat.le_of_ble_eq_true rfl) (ev_hw rfl) ?_
  show ev_E g m_X11_passes 5 0 15 [some (ev_o 11 a), some (ev_i (S.1 a 6)), none, none] [] S1 Q
  refine ev_iconst (1) dX11_passes_15 rfl ?_
  refine ev_istore_n dX11_passes_16 (Nat.le_of_ble_eq_true rfl) (ev_hw rfl) ?_
  show ev_E g m_X11_passes 5 0 17 [some (ev_o 11 a), some (ev_i (S.1 a 6)), some (ev_i 1), none] [] S1 Q
  exact hQ
set_option maxHeartbeats 4000000 in
set_option maxRecDepth 100000 in
theorem sg_X11_passes_17 {g : ev_G} {S : ev_S} {Q : ev_O → ev_S → Prop} (a : Nat) (u1 : Int32) (u2 : Int32) (hQ : (u1 < u2 → (
    ev_E g m_X11_passes 5 0 108 [some (ev_o 11 a), none, some (ev_i 0), none] [] S Q)) ∧
  (¬ (u1 < u2) → (
    ev_E g m_X11_passes 5 0 24 [some (ev_o 11 a), some (ev_i u1), some (ev_i u2), some (ev_i 0)] [] S Q))) : ev_E g m_X11_passes 5 0 17 [some (ev_o 11 a), some (ev_i u1), some (ev_i u2), none] [] S Q := by
  refine ev_iload_n (u2) dX11_passes_17 rfl ?_
  refine ev_iload_n (u1) dX11_passes_18 rfl ?_
  refine ev_icmp_gt 106 dX11_passes_19 (by decide) (fun c1 => ?_) (fun c1 => ?_)
  · replace hQ := hQ.1 c1
    refine ev_iconst (0) dX11_passes_106 rfl ?_
    refine ev_istore_n dX11_passes_107 (Nat.le_of_ble_eq_true rfl) (ev_hw rfl) ?_
    show ev_E g m_X11_passes 5 0 108 [some (ev_o 11 a), some (ev_i u1), some (ev_i 0), none] [] S Q
    refine ev_fgm [true, false, true, false] ?_
    exact hQ
  · replace hQ := hQ.2 c1
    refine ev_iconst (0) dX11_passes_22 rfl ?_
    refine ev_istore_n dX11_passes_23 (Nat.le_of_ble_eq_true rfl) (ev_hw rfl) ?_
    show ev_E g m_X11_passes 5 0 24 [some (ev_o 11 a), some (ev_i u1), some (ev_i u2), some (ev_i 0)] [] S Q
    exact hQ
set_option maxHeartbeats 4000000 in
set_option maxRecDepth 100000 in
theorem sg_X11_passes_108 {g : ev_G} {S : ev_S} {Q : ev_O → ev_S → Prop} (a : Nat) (u2 : Int32) (hQ : ((2 * (S.1 a 3)) ≤ u2 → (
    Q (.inl none) S)) ∧
  (¬ ((2 * (S.1 a 3)) ≤ u2) → (
    ev_E g m_X11_passes 5 0 120 [some (ev_o 11 a), none, some (ev_i u2), some (ev_i 0)] [] S Q))) : ev_E g m_X11_passes 5 0 108 [some (ev_o 11 a), none, some (ev_i u2), none] [] S Q := by
  refine ev_iload_n (u2) dX11_passes_108 rfl ?_
  refine ev_iconst (2) dX11_passes_109 rfl ?_
  refine ev_aload_n (ev_o 11 a) dX11_passes_110 rfl rfl ?_
  refine gf_11_3 dX11_passes_111 kw_803 ?_
  refine ev_imul dX11_passes_114 ?_
  refine ev_icmp_ge 256 dX11_passes_115 (by decide) (fun c1 => ?_) (fun c1 => ?_)
  · replace hQ := hQ.1 c1
    exact ev_return dX11_passes_256 rfl hQ
  · replace hQ := hQ.2 c1
    refine ev_iconst (0) dX11_passes_118 rfl ?_
    refine ev_istore_n dX11_passes_119 (Nat.le_of_ble_eq_true rfl) (ev_hw rfl) ?_
    show ev_E g m_X11_passes 5 0 120 [some (ev_o 11 a), none, some (ev_i u2), some (ev_i 0)] [] S Q
    exact hQ
set_option maxHeartbeats 4000000 in
set_option maxRecDepth 100000 in
theorem sg_X11_passes_24 {g : ev_G} {S : ev_S} {Q : ev_O → ev_S → Prop} (a : Nat) (u1 : Int32) (u2 : Int32) (u3 : Int32) (hQ : ((S.1 a 4) ≤ u3 → (
    ev_E g m_X11_passes 5 0 17 [some (ev_o 11 a), some (ev_i u1), some (ev_i (u2 + 1)), none] [] S Q)) ∧
  (¬ ((S.1 a 4) ≤ u3) → (
    (vp_in u3 81) ∧ (
      ((S.1 (a + 24) u3.toNatClampNeg) = 1 → (
        ((S.1 (a + 26) u3.toNatClampNeg) = u2 → (
          (vp_in ((12 * (S.1 (a + 20) u3.toNatClampNeg)) + (ev_rem ((S.1 a 2) / 30) 12)) 48) ∧ (
            ((S.1 (a + 18) ((12 * (S.1 (a + 20) u3.toNatClampNeg)) + (ev_rem ((S.1 a 2) / 30) 12)).toNatClampNeg) = 9 → (
              ev_E g m_X11_passes 5 0 24 [some (ev_o 11 a), some (ev_i u1), some (ev_i u2), some (ev_i (u3 + 1))] [] S Q)) ∧
            (¬ ((S.1 (a + 18) ((12 * (S.1 (a + 20) u3.toNatClampNeg)) + (ev_rem ((S.1 a 2) / 30) 12)).toNatClampNeg) = 9) → (
              ∀ S1 : ev_S, S1 = (ev_up S (a + 27) u3.toNatClampNeg ((S.1 (a + 27) u3.toNatClampNeg) - 1)) → (
                (((S.1 (a + 27) u3.toNatClampNeg) - 1) = 0 → (
                  ev_Cv g m_X11_arrives 4 0 [ev_o 11 a, ev_i u3] S1 (fun o S2 => o = .inl none ∧ (
                    ev_E g m_X11_passes 5 0 24 [some (ev_o 11 a), some (ev_i u1), some (ev_i u2), some (ev_i (u3 + 1))] [] S2 Q)))) ∧
                (¬ (((S.1 (a + 27) u3.toNatClampNeg) - 1) = 0) → (
                  ev_E g m_X11_passes 5 0 24 [some (ev_o 11 a), some (ev_i u1), some (ev_i u2), some (ev_i (u3 + 1))] [] S1 Q)))))))) ∧
        (¬ ((S.1 (a + 26) u3.toNatClampNeg) = u2) → (
          ev_E g m_X11_passes 5 0 24 [some (ev_o 11 a), some (ev_i u1), some (ev_i u2), some (ev_i (u3 + 1))] [] S Q)))) ∧
      (¬ ((S.1 (a + 24) u3.toNatClampNeg) = 1) → (
        ev_E g m_X11_passes 5 0 24 [some (ev_o 11 a), some (ev_i u1), some (ev_i u2), some (ev_i (u3 + 1))] [] S Q)))))) : ev_E g m_X11_passes 5 0 24 [some (ev_o 11 a), some (ev_i u1), some (ev_i u2), some (ev_i u3)] [] S Q := by
  refine ev_iload_n (u3) dX11_passes_24 rfl ?_
  refine ev_aload_n (ev_o 11 a) dX11_passes_25 rfl rfl ?_
  refine gf_11_4 dX11_passes_26 kw_805 ?_
  refine ev_icmp_ge 100 dX11_passes_29 (by decide) (fun c1 => ?_) (fun c1 => ?_)
  · replace hQ := hQ.1 c1
    refine ev_iinc u2 (1) dX11_passes_100 rfl (by decide) (ev_hw rfl) ?_
    show ev_E g m_X11_passes 5 0 103 [some (ev_o 11 a), some (ev_i u1), some (ev_i (u2 + 1)), some (ev_i u3)] [] S Q
    refine ev_goto 17 dX11_passes_103 (by decide) ?_
    refine ev_fgm [true, true, true, false] ?_
    exact hQ
  · replace hQ := hQ.2 c1
    refine ev_aload_n (ev_o 11 a) dX11_passes_32 rfl rfl ?_
    refine gf_11_20 dX11_passes_33 kw_835 ?_
    refine ev_iload_n (u3) dX11_passes_36 rfl ?_
    obtain ⟨h1, hQ⟩ := hQ
    refine ev_iaload dX11_passes_37 h1 ?_
    refine ev_iconst (1) dX11_passes_38 rfl ?_
    refine ev_icmp_ne 94 dX11_passes_39 (by decide) (fun c2 => ?_) (fun c2 => ?_)
    · replace hQ := hQ.2 c2
      refine ev_iinc u3 (1) dX11_passes_94 rfl (by decide) (ev_hw rfl) ?_
      show ev_E g m_X11_passes 5 0 97 [some (ev_o 11 a), some (ev_i u1), some (ev_i u2), some (ev_i (u3 + 1))] [] S Q
      refine ev_goto 24 dX11_passes_97 (by decide) ?_
      exact hQ
    · replace hQ := hQ.1 c2
      refine ev_aload_n (ev_o 11 a) dX11_passes_42 rfl rfl ?_
      refine gf_11_22 dX11_passes_43 kw_838 ?_
      refine ev_iload_n (u3) dX11_passes_46 rfl ?_
      refine ev_iaload dX11_passes_47 h1 ?_
      refine ev_iload_n (u2) dX11_passes_48 rfl ?_
      refine ev_icmp_ne 94 dX11_passes_49 (by decide) (fun c3 => ?_) (fun c3 => ?_)
      · replace hQ := hQ.2 c3
        refine ev_iinc u3 (1) dX11_passes_94 rfl (by decide) (ev_hw rfl) ?_
        show ev_E g m_X11_passes 5 0 97 [some (ev_o 11 a), some (ev_i u1), some (ev_i u2), some (ev_i (u3 + 1))] [] S Q
        refine ev_goto 24 dX11_passes_97 (by decide) ?_
        exact hQ
      · replace hQ := hQ.1 c3
        refine ev_aload_n (ev_o 11 a) dX11_passes_52 rfl rfl ?_
        refine ev_aload_n (ev_o 11 a) dX11_passes_53 rfl rfl ?_
        refine gf_11_16 dX11_passes_54 kw_828 ?_
        refine ev_iload_n (u3) dX11_passes_57 rfl ?_
        refine ev_iaload dX11_passes_58 h1 ?_
        obtain ⟨h2, hQ⟩ := hQ
        refine ev_fV mv_X11_depth 2 11 [ev_i (S.1 (a + 20) u3.toNatClampNeg)] [] dX11_passes_59 kw_1375 rfl (by decide) rfl (by decide) (Nat.le_of_ble_eq_true rfl) (sp_X11_depth a (S.1 (a + 20) u3.toNatClampNeg) h2) ?_ rfl
        refine ev_bipush (9) dX11_passes_62 (by decide) ?_
        refine ev_icmp_ne 70 dX11_passes_64 (by decide) (fun c4 => ?_) (fun c4 => ?_)
        · replace hQ := hQ.2 c4
          refine ev_aload_n (ev_o 11 a) dX11_passes_70 rfl rfl ?_
          refine gf_11_23 dX11_passes_71 kw_839 ?_
          refine ev_iload_n (u3) dX11_passes_74 rfl ?_
          refine ev_dup2 dX11_passes_75 rfl rfl ?_
          refine ev_iaload dX11_passes_76 h1 ?_
          refine ev_iconst (1) dX11_passes_77 rfl ?_
          refine ev_isub dX11_passes_78 ?_
          refine ev_iastore dX11_passes_79 h1 ?_
          refine ev_sub hQ (fun S1 hS1 hQ => ?_)
          refine ev_E.goal (pc' := 80) (L' := [some (ev_o 11 a), some (ev_i u1), some (ev_i u2), some (ev_i u3)]) (K' := []) (S' := S1) ?_ rfl rfl rfl hS1
          refine ev_aload_n (ev_o 11 a) dX11_passes_80 rfl rfl ?_
          refine gf_11_23 dX11_passes_81 kw_839 ?_
          refine ev_iload_n (u3) dX11_passes_84 rfl ?_
          refine ev_iaload dX11_passes_85 h1 ?_
          refine ev_ke (j_rs hS1) ?_
          refine ev_if_ne 94 dX11_passes_86 (by decide) (fun c5 => ?_) (fun c5 => ?_)
          · replace hQ := hQ.2 c5
            refine ev_iinc u3 (1) dX11_passes_94 rfl (by decide) (ev_hw rfl) ?_
            show ev_E g m_X11_passes 5 0 97 [some (ev_o 11 a), some (ev_i u1), some (ev_i u2), some (ev_i (u3 + 1))] [] S1 Q
            refine ev_goto 24 dX11_passes_97 (by decide) ?_
            exact hQ
          · replace hQ := hQ.1 c5
            refine ev_aload_n (ev_o 11 a) dX11_passes_89 rfl rfl ?_
            refine ev_iload_n (u3) dX11_passes_90 rfl ?_
            refine ev_cV mv_X11_arrives 4 0 11 [ev_i u3] [] dX11_passes_91 kw_1376 rfl (by decide) rfl (by decide) (by decide) (Nat.le_of_ble_eq_true rfl) hQ ?_ rfl
            rintro o S2 ⟨rfl, hQ⟩
            show ev_E g m_X11_passes 5 0 94 [some (ev_o 11 a), some (ev_i u1), some (ev_i u2), some (ev_i u3)] [] S2 Q
            refine ev_iinc u3 (1) dX11_passes_94 rfl (by decide) (ev_hw rfl) ?_
            show ev_E g m_X11_passes 5 0 97 [some (ev_o 11 a), some (ev_i u1), some (ev_i u2), some (ev_i (u3 + 1))] [] S2 Q
            refine ev_goto 24 dX11_passes_97 (by decide) ?_
            exact hQ
        · replace hQ := hQ.1 c4
          refine ev_goto 94 dX11_passes_67 (by decide) ?_
          refine ev_iinc u3 (1) dX11_passes_94 rfl (by decide) (ev_hw rfl) ?_
          show ev_E g m_X11_passes 5 0 97 [some (ev_o 11 a), some (ev_i u1), some (ev_i u2), some (ev_i (u3 + 1))] [] S Q
          refine ev_goto 24 dX11_passes_97 (by decide) ?_
          exact hQ
