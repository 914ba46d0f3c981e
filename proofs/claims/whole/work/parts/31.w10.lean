set_option maxHeartbeats 4000000 in
set_option maxRecDepth 100000 in
theorem sg_X10_arrives_0 {g : ev_G} {S : ev_S} {Q : ev_O → ev_S → Prop} (a : Nat) (x0 : Int32) (hQ : (vp_in ((1200 + (11 * x0)) + 1) 2091) ∧ (
    (vp_in ((1200 + (11 * x0)) + 0) 2091) ∧ (
      (vp_in ((1200 + (11 * x0)) + 6) 2091) ∧ (
        ∀ S1 : ev_S, S1 = (ev_up S (a + 1) ((1200 + (11 * x0)) + 6).toNatClampNeg 2) → (
          (vp_in ((1200 + (11 * x0)) + 10) 2091) ∧ (
            ∀ S2 : ev_S, S2 = (ev_up S1 (a + 1) ((1200 + (11 * x0)) + 10).toNatClampNeg (S1.1 (a + 1) 2)) → (
              (vp_in ((1140 + (15 * (S.1 (a + 1) ((1200 + (11 * x0)) + 1).toNatClampNeg))) + (1 + (1 - (S.1 (a + 1) ((1200 + (11 * x0)) + 0).toNatClampNeg)))) 2091) ∧ (
                ∀ S3 : ev_S, S3 = (ev_up S2 (a + 1) ((1140 + (15 * (S.1 (a + 1) ((1200 + (11 * x0)) + 1).toNatClampNeg))) + (1 + (1 - (S.1 (a + 1) ((1200 + (11 * x0)) + 0).toNatClampNeg)))).toNatClampNeg ((S2.1 (a + 1) ((1140 + (15 * (S.1 (a + 1) ((1200 + (11 * x0)) + 1).toNatClampNeg))) + (1 + (1 - (S.1 (a + 1) ((1200 + (11 * x0)) + 0).toNatClampNeg)))).toNatClampNeg) + 1)) → (
                  (vp_in ((1200 + (11 * x0)) + 7) 2091) ∧ (
                    ∀ S4 : ev_S, S4 = (ev_up S3 (a + 1) 7 ((S3.1 (a + 1) 7) + ((S3.1 (a + 1) 2) - (S3.1 (a + 1) ((1200 + (11 * x0)) + 7).toNatClampNeg)))) → (
                      ∀ S5 : ev_S, S5 = (ev_up S4 (a + 1) 8 ((S3.1 (a + 1) 8) + 1)) → (
                        if x0 = (S.1 a 8) then (
                          Q (.inl none) S5)
                        else (
                          ev_Cv g m_X10_isRead 5 0 [ev_o 10 a, ev_i x0] S5 (fun o S6 => o = .inl none ∧ (
                            Q (.inl none) S6))))))))))))))) : ev_Cv g m_X10_arrives 6 0 [ev_o 10 a, ev_i x0] S Q := by
  refine ev_enter (by decide) rfl rfl (Nat.le_of_ble_eq_true rfl) ?_
  show ev_E g m_X10_arrives 6 0 0 [some (ev_o 10 a), some (ev_i x0), none, none] [] S Q
  refine ev_aload_n (ev_o 10 a) dX10_arrives_0 rfl rfl ?_
  refine ev_iload_n (x0) dX10_arrives_1 rfl ?_
  refine ev_iconst (1) dX10_arrives_2 rfl ?_
  obtain ⟨h1, hQ⟩ := hQ
  refine ev_fV mv_X10_ofL 1 10 [ev_i x0, ev_i 1] [] dX10_arrives_3 kw_2129 rfl (by decide) rfl (by decide) (Nat.le_of_ble_eq_true rfl) (sp_X10_ofL a x0 1 h1) ?_ rfl
  refine ev_istore_n dX10_arrives_6 (Nat.le_of_ble_eq_true rfl) (ev_hw rfl) ?_
  show ev_E g m_X10_arrives 6 0 7 [some (ev_o 10 a), some (ev_i x0), some (ev_i (S.1 (a + 1) ((1200 + (11 * x0)) + 1).toNatClampNeg)), none] [] S Q
  refine ev_iconst (1) dX10_arrives_7 rfl ?_
  refine ev_aload_n (ev_o 10 a) dX10_arrives_8 rfl rfl ?_
  refine ev_iload_n (x0) dX10_arrives_9 rfl ?_
  refine ev_iconst (0) dX10_arrives_10 rfl ?_
  obtain ⟨h2, hQ⟩ := hQ
  refine ev_fV mv_X10_ofL 1 10 [ev_i x0, ev_i 0] [ev_i 1] dX10_arrives_11 kw_2129 rfl (by decide) rfl (by decide) (Nat.le_of_ble_eq_true rfl) (sp_X10_ofL a x0 0 h2) ?_ rfl
  refine ev_isub dX10_arrives_14 ?_
  refine ev_istore_n dX10_arrives_15 (Nat.le_of_ble_eq_true rfl) (ev_hw rfl) ?_
  show ev_E g m_X10_arrives 6 0 16 [some (ev_o 10 a), some (ev_i x0), some (ev_i (S.1 (a + 1) ((1200 + (11 * x0)) + 1).toNatClampNeg)), some (ev_i (1 - (S.1 (a + 1) ((1200 + (11 * x0)) + 0).toNatClampNeg)))] [] S Q
  refine ev_aload_n (ev_o 10 a) dX10_arrives_16 rfl rfl ?_
  refine ev_iload_n (x0) dX10_arrives_17 rfl ?_
  refine ev_bipush (6) dX10_arrives_18 (by decide) ?_
  refine ev_iconst (2) dX10_arrives_20 rfl ?_
  obtain ⟨h3, hQ⟩ := hQ
  refine ev_fVn mv_X10_putL 1 10 [ev_i x0, ev_i 6, ev_i 2] [] dX10_arrives_21 kw_2085 rfl (by decide) rfl (by decide) (Nat.le_of_ble_eq_true rfl) (sp_X10_putL a x0 6 2 h3) ?_ rfl
  obtain ⟨S1, hS1⟩ : ∃ z, z = (ev_up S (a + 1) ((1200 + (11 * x0)) + 6).toNatClampNeg 2) := ⟨_, rfl⟩
  refine ev_E.goal (pc' := 24) (L' := [some (ev_o 10 a), some (ev_i x0), some (ev_i (S.1 (a + 1) ((1200 + (11 * x0)) + 1).toNatClampNeg)), some (ev_i (1 - (S.1 (a + 1) ((1200 + (11 * x0)) + 0).toNatClampNeg)))]) (K' := []) (S' := S1) ?_ rfl rfl rfl hS1
  replace hQ := hQ S1 hS1
  refine ev_aload_n (ev_o 10 a) dX10_arrives_24 rfl rfl ?_
  refine ev_iload_n (x0) dX10_arrives_25 rfl ?_
  refine ev_bipush (10) dX10_arrives_26 (by decide) ?_
  refine ev_aload_n (ev_o 10 a) dX10_arrives_28 rfl rfl ?_
  refine gf_10_0 dX10_arrives_29 kw_1853 ?_
  refine ev_iconst (2) dX10_arrives_32 rfl ?_
  refine ev_iaload dX10_arrives_33 (j_vin (by decide)) ?_
  obtain ⟨h4, hQ⟩ := hQ
  refine ev_fVn mv_X10_putL 1 10 [ev_i x0, ev_i 10, ev_i (S1.1 (a + 1) 2)] [] dX10_arrives_34 kw_2085 rfl (by decide) rfl (by decide) (Nat.le_of_ble_eq_true rfl) (sp_X10_putL a x0 10 (S1.1 (a + 1) 2) h4) ?_ rfl
  obtain ⟨S2, hS2⟩ : ∃ z, z = (ev_up S1 (a + 1) ((1200 + (11 * x0)) + 10).toNatClampNeg (S1.1 (a + 1) 2)) := ⟨_, rfl⟩
  refine ev_E.goal (pc' := 37) (L' := [some (ev_o 10 a), some (ev_i x0), some (ev_i (S.1 (a + 1) ((1200 + (11 * x0)) + 1).toNatClampNeg)), some (ev_i (1 - (S.1 (a + 1) ((1200 + (11 * x0)) + 0).toNatClampNeg)))]) (K' := []) (S' := S2) ?_ rfl rfl rfl hS2
  replace hQ := hQ S2 hS2
  refine ev_aload_n (ev_o 10 a) dX10_arrives_37 rfl rfl ?_
  refine ev_iload_n ((S.1 (a + 1) ((1200 + (11 * x0)) + 1).toNatClampNeg)) dX10_arrives_38 rfl ?_
  refine ev_iconst (1) dX10_arrives_39 rfl ?_
  refine ev_iload_n ((1 - (S.1 (a + 1) ((1200 + (11 * x0)) + 0).toNatClampNeg))) dX10_arrives_40 rfl ?_
  refine ev_iadd dX10_arrives_41 ?_
  refine ev_aload_n (ev_o 10 a) dX10_arrives_42 rfl rfl ?_
  refine ev_iload_n ((S.1 (a + 1) ((1200 + (11 * x0)) + 1).toNatClampNeg)) dX10_arrives_43 rfl ?_
  refine ev_iconst (1) dX10_arrives_44 rfl ?_
  refine ev_iload_n ((1 - (S.1 (a + 1) ((1200 + (11 * x0)) + 0).toNatClampNeg))) dX10_arrives_45 rfl ?_
  refine ev_iadd dX10_arrives_46 ?_
  obtain ⟨h5, hQ⟩ := hQ
  refine ev_fV mv_X10_ofPass 1 10 [ev_i (S.1 (a + 1) ((1200 + (11 * x0)) + 1).toNatClampNeg), ev_i (1 + (1 - (S.1 (a + 1) ((1200 + (11 * x0)) + 0).toNatClampNeg)))] [ev_i (1 + (1 - (S.1 (a + 1) ((1200 + (11 * x0)) + 0).toNatClampNeg))), ev_i (S.1 (a + 1) ((1200 + (11 * x0)) + 1).toNatClampNeg), ev_o 10 a] dX10_arrives_47 kw_2161 rfl (by decide) rfl (by decide) (Nat.le_of_ble_eq_true rfl) (sp_X10_ofPass a (S.1 (a + 1) ((1200 + (11 * x0)) + 1).toNatClampNeg) (1 + (1 - (S.1 (a + 1) ((1200 + (11 * x0)) + 0).toNatClampNeg))) h5) ?_ rfl
  refine ev_iconst (1) dX10_arrives_50 rfl ?_
  refine ev_iadd dX10_arrives_51 ?_
  refine ev_fVn mv_X10_putPass 1 10 [ev_i (S.1 (a + 1) ((1200 + (11 * x0)) + 1).toNatClampNeg), ev_i (1 + (1 - (S.1 (a + 1) ((1200 + (11 * x0)) + 0).toNatClampNeg))), ev_i ((S2.1 (a + 1) ((1140 + (15 * (S.1 (a + 1) ((1200 + (11 * x0)) + 1).toNatClampNeg))) + (1 + (1 - (S.1 (a + 1) ((1200 + (11 * x0)) + 0).toNatClampNeg)))).toNatClampNeg) + 1)] [] dX10_arrives_52 kw_1844 rfl (by decide) rfl (by decide) (Nat.le_of_ble_eq_true rfl) (sp_X10_putPass a (S.1 (a + 1) ((1200 + (11 * x0)) + 1).toNatClampNeg) (1 + (1 - (S.1 (a + 1) ((1200 + (11 * x0)) + 0).toNatClampNeg))) ((S2.1 (a + 1) ((1140 + (15 * (S.1 (a + 1) ((1200 + (11 * x0)) + 1).toNatClampNeg))) + (1 + (1 - (S.1 (a + 1) ((1200 + (11 * x0)) + 0).toNatClampNeg)))).toNatClampNeg) + 1) h5) ?_ rfl
  obtain ⟨S3, hS3⟩ : ∃ z, z = (ev_up S2 (a + 1) ((1140 + (15 * (S.1 (a + 1) ((1200 + (11 * x0)) + 1).toNatClampNeg))) + (1 + (1 - (S.1 (a + 1) ((1200 + (11 * x0)) + 0).toNatClampNeg)))).toNatClampNeg ((S2.1 (a + 1) ((1140 + (15 * (S.1 (a + 1) ((1200 + (11 * x0)) + 1).toNatClampNeg))) + (1 + (1 - (S.1 (a + 1) ((1200 + (11 * x0)) + 0).toNatClampNeg)))).toNatClampNeg) + 1)) := ⟨_, rfl⟩
  refine ev_E.goal (pc' := 55) (L' := [some (ev_o 10 a), some (ev_i x0), some (ev_i (S.1 (a + 1) ((1200 + (11 * x0)) + 1).toNatClampNeg)), some (ev_i (1 - (S.1 (a + 1) ((1200 + (11 * x0)) + 0).toNatClampNeg)))]) (K' := []) (S' := S3) ?_ rfl rfl rfl hS3
  replace hQ := hQ S3 hS3
  refine ev_aload_n (ev_o 10 a) dX10_arrives_55 rfl rfl ?_
  refine gf_10_0 dX10_arrives_56 kw_1853 ?_
  refine ev_bipush (7) dX10_arrives_59 (by decide) ?_
  refine ev_dup2 dX10_arrives_61 rfl rfl ?_
  refine ev_iaload dX10_arrives_62 (j_vin (by decide)) ?_
  refine ev_aload_n (ev_o 10 a) dX10_arrives_63 rfl rfl ?_
  refine gf_10_0 dX10_arrives_64 kw_1853 ?_
  refine ev_iconst (2) dX10_arrives_67 rfl ?_
  refine ev_iaload dX10_arrives_68 (j_vin (by decide)) ?_
  refine ev_aload_n (ev_o 10 a) dX10_arrives_69 rfl rfl ?_
  refine ev_iload_n (x0) dX10_arrives_70 rfl ?_
  refine ev_bipush (7) dX10_arrives_71 (by decide) ?_
  obtain ⟨h6, hQ⟩ := hQ
  refine ev_fV mv_X10_ofL 1 10 [ev_i x0, ev_i 7] [ev_i (S3.1 (a + 1) 2), ev_i (S3.1 (a + 1) 7), ev_i 7, ev_y 2091 (a + 1)] dX10_arrives_73 kw_2129 rfl (by decide) rfl (by decide) (Nat.le_of_ble_eq_true rfl) (sp_X10_ofL a x0 7 h6) ?_ rfl
  refine ev_isub dX10_arrives_76 ?_
  refine ev_iadd dX10_arrives_77 ?_
  refine ev_iastore dX10_arrives_78 (j_vin (by decide)) ?_
  obtain ⟨S4, hS4⟩ : ∃ z, z = (ev_up S3 (a + 1) 7 ((S3.1 (a + 1) 7) + ((S3.1 (a + 1) 2) - (S3.1 (a + 1) ((1200 + (11 * x0)) + 7).toNatClampNeg)))) := ⟨_, rfl⟩
  refine ev_E.goal (pc' := 79) (L' := [some (ev_o 10 a), some (ev_i x0), some (ev_i (S.1 (a + 1) ((1200 + (11 * x0)) + 1).toNatClampNeg)), some (ev_i (1 - (S.1 (a + 1) ((1200 + (11 * x0)) + 0).toNatClampNeg)))]) (K' := []) (S' := S4) ?_ rfl rfl rfl hS4
  replace hQ := hQ S4 hS4
  refine ev_aload_n (ev_o 10 a) dX10_arrives_79 rfl rfl ?_
  refine gf_10_0 dX10_arrives_80 kw_1853 ?_
  refine ev_bipush (8) dX10_arrives_83 (by decide) ?_
  refine ev_dup2 dX10_arrives_85 rfl rfl ?_
  refine ev_iaload dX10_arrives_86 (j_vin (by decide)) ?_
  refine ev_ke (j_rk hS4 (Or.inr (by decide))) ?_
  refine ev_iconst (1) dX10_arrives_87 rfl ?_
  refine ev_iadd dX10_arrives_88 ?_
  refine ev_iastore dX10_arrives_89 (j_vin (by decide)) ?_
  obtain ⟨S5, hS5⟩ : ∃ z, z = (ev_up S4 (a + 1) 8 ((S3.1 (a + 1) 8) + 1)) := ⟨_, rfl⟩
  refine ev_E.goal (pc' := 90) (L' := [some (ev_o 10 a), some (ev_i x0), some (ev_i (S.1 (a + 1) ((1200 + (11 * x0)) + 1).toNatClampNeg)), some (ev_i (1 - (S.1 (a + 1) ((1200 + (11 * x0)) + 0).toNatClampNeg)))]) (K' := []) (S' := S5) ?_ rfl rfl rfl hS5
  replace hQ := hQ S5 hS5
  refine ev_iload_n (x0) dX10_arrives_90 rfl ?_
  refine ev_aload_n (ev_o 10 a) dX10_arrives_91 rfl rfl ?_
  refine gf_10_8 dX10_arrives_92 kw_1861 ?_
  refine ev_ke (((((j_rk hS5 (Or.inl (by omega))).trans (j_rk hS4 (Or.inl (by omega)))).trans (j_rk hS3 (Or.inl (by omega)))).trans (j_rk hS2 (Or.inl (by omega)))).trans (j_rk hS1 (Or.inl (by omega)))) ?_
  refine ev_icmp_eq 103 dX10_arrives_95 (by decide) (fun c1 => ?_) (fun c1 => ?_)
  · rw [if_pos c1] at hQ
    exact ev_return dX10_arrives_103 rfl hQ
  · rw [if_neg c1] at hQ
    refine ev_aload_n (ev_o 10 a) dX10_arrives_98 rfl rfl ?_
    refine ev_iload_n (x0) dX10_arrives_99 rfl ?_
    refine ev_cV mv_X10_isRead 5 0 10 [ev_i x0] [] dX10_arrives_100 kw_2169 rfl (by decide) rfl (by decide) (by decide) (Nat.le_of_ble_eq_true rfl) hQ ?_ rfl
    rintro o S6 ⟨rfl, hQ⟩
    show ev_E g m_X10_arrives 6 0 103 [some (ev_o 10 a), some (ev_i x0), some (ev_i (S.1 (a + 1) ((1200 + (11 * x0)) + 1).toNatClampNeg)), some (ev_i (1 - (S.1 (a + 1) ((1200 + (11 * x0)) + 0).toNatClampNeg)))] [] S6 Q
    exact ev_return dX10_arrives_103 rfl hQ
set_option maxHeartbeats 4000000 in
set_option maxRecDepth 100000 in
theorem sg_X10_nextUnderWay_0 {g : ev_G} {S : ev_S} {Q : ev_O → ev_S → Prop} (a : Nat) (x0 : Int32) (hQ : ev_E g m_X10_nextUnderWay 2 0 4 [some (ev_o 10 a), some (ev_i x0), some (ev_i (-1)), some (ev_i 0)] [] S Q) : ev_Cv g m_X10_nextUnderWay 2 0 [ev_o 10 a, ev_i x0] S Q := by
  refine ev_enter (by decide) rfl rfl (Nat.le_of_ble_eq_true rfl) ?_
  show ev_E g m_X10_nextUnderWay 2 0 0 [some (ev_o 10 a), some (ev_i x0), none, none] [] S Q
  refine ev_iconst (-1) dX10_nextUnderWay_0 rfl ?_
  refine ev_istore_n dX10_nextUnderWay_1 (Nat.le_of_ble_eq_true rfl) (ev_hw rfl) ?_
  show ev_E g m_X10_nextUnderWay 2 0 2 [some (ev_o 10 a), some (ev_i x0), some (ev_i (-1)), none] [] S Q
  refine ev_iconst (0) dX10_nextUnderWay_2 rfl ?_
  refine ev_istore_n dX10_nextUnderWay_3 (Nat.le_of_ble_eq_true rfl) (ev_hw rfl) ?_
  show ev_E g m_X10_nextUnderWay 2 0 4 [some (ev_o 10 a), some (ev_i x0), some (ev_i (-1)), some (ev_i 0)] [] S Q
  exact hQ
set_option maxHeartbeats 4000000 in
set_option maxRecDepth 100000 in
theorem sg_X10_nextUnderWay_4 {g : ev_G} {S : ev_S} {Q : ev_O → ev_S → Prop} (a : Nat) (u1 : Int32) (u2 : Int32) (u3 : Int32) (hQ : if (S.1 (a + 1) 4) ≤ u3 then (
    Q (.inl (some (ev_i u2))) S)
  else (
    (vp_in ((1200 + (11 * u3)) + 6) 2091) ∧ (
      if (S.1 (a + 1) ((1200 + (11 * u3)) + 6).toNatClampNeg) = 1 then (
        (vp_in ((1200 + (11 * u3)) + 8) 2091) ∧ (
          if (S.1 (a + 1) ((1200 + (11 * u3)) + 8).toNatClampNeg) ≤ u1 then (
            ev_E g m_X10_nextUnderWay 2 0 4 [some (ev_o 10 a), some (ev_i u1), some (ev_i u2), some (ev_i (u3 + 1))] [] S Q)
          else (
            if u2 = (-1) then (
              ev_E g m_X10_nextUnderWay 2 0 4 [some (ev_o 10 a), some (ev_i u1), some (ev_i u3), some (ev_i (u3 + 1))] [] S Q)
            else (
              (vp_in ((1200 + (11 * u2)) + 8) 2091) ∧ (
                if (S.1 (a + 1) ((1200 + (11 * u2)) + 8).toNatClampNeg) ≤ (S.1 (a + 1) ((1200 + (11 * u3)) + 8).toNatClampNeg) then (
                  ev_E g m_X10_nextUnderWay 2 0 4 [some (ev_o 10 a), some (ev_i u1), some (ev_i u2), some (ev_i (u3 + 1))] [] S Q)
                else (
                  ev_E g m_X10_nextUnderWay 2 0 4 [some (ev_o 10 a), some (ev_i u1), some (ev_i u3), some (ev_i (u3 + 1))] [] S Q))))))
      else (
        ev_E g m_X10_nextUnderWay 2 0 4 [some (ev_o 10 a), some (ev_i u1), some (ev_i u2), some (ev_i (u3 + 1))] [] S Q)))) : ev_E g m_X10_nextUnderWay 2 0 4 [some (ev_o 10 a), some (ev_i u1), some (ev_i u2), some (ev_i u3)] [] S Q := by
  refine ev_iload_n (u3) dX10_nextUnderWay_4 rfl ?_
  refine ev_aload_n (ev_o 10 a) dX10_nextUnderWay_5 rfl rfl ?_
  refine gf_10_0 dX10_nextUnderWay_6 kw_1853 ?_
  refine ev_iconst (4) dX10_nextUnderWay_9 rfl ?_
  refine ev_iaload dX10_nextUnderWay_10 (j_vin (by decide)) ?_
  refine ev_icmp_ge 66 dX10_nextUnderWay_11 (by decide) (fun c1 => ?_) (fun c1 => ?_)
  · rw [if_pos c1] at hQ
    refine ev_iload_n (u2) dX10_nextUnderWay_66 rfl ?_
    exact ev_ireturn .int dX10_nextUnderWay_67 rfl rfl hQ
  · rw [if_neg c1] at hQ
    refine ev_aload_n (ev_o 10 a) dX10_nextUnderWay_14 rfl rfl ?_
    refine ev_iload_n (u3) dX10_nextUnderWay_15 rfl ?_
    refine ev_bipush (6) dX10_nextUnderWay_16 (by decide) ?_
    obtain ⟨h1, hQ⟩ := hQ
    refine ev_fV mv_X10_ofL 1 10 [ev_i u3, ev_i 6] [] dX10_nextUnderWay_18 kw_2129 rfl (by decide) rfl (by decide) (Nat.le_of_ble_eq_true rfl) (sp_X10_ofL a u3 6 h1) ?_ rfl
    refine ev_iconst (1) dX10_nextUnderWay_21 rfl ?_
    refine ev_icmp_ne 60 dX10_nextUnderWay_22 (by decide) (fun c2 => ?_) (fun c2 => ?_)
    · rw [if_neg c2] at hQ
      refine ev_iinc u3 (1) dX10_nextUnderWay_60 rfl (by decide) (ev_hw rfl) ?_
      show ev_E g m_X10_nextUnderWay 2 0 63 [some (ev_o 10 a), some (ev_i u1), some (ev_i u2), some (ev_i (u3 + 1))] [] S Q
      refine ev_goto 4 dX10_nextUnderWay_63 (by decide) ?_
      exact hQ
    · rw [if_pos c2] at hQ
      refine ev_aload_n (ev_o 10 a) dX10_nextUnderWay_25 rfl rfl ?_
      refine ev_iload_n (u3) dX10_nextUnderWay_26 rfl ?_
      refine ev_bipush (8) dX10_nextUnderWay_27 (by decide) ?_
      obtain ⟨h2, hQ⟩ := hQ
      refine ev_fV mv_X10_ofL 1 10 [ev_i u3, ev_i 8] [] dX10_nextUnderWay_29 kw_2129 rfl (by decide) rfl (by decide) (Nat.le_of_ble_eq_true rfl) (sp_X10_ofL a u3 8 h2) ?_ rfl
      refine ev_iload_n (u1) dX10_nextUnderWay_32 rfl ?_
      refine ev_icmp_le 60 dX10_nextUnderWay_33 (by decide) (fun c3 => ?_) (fun c3 => ?_)
      · rw [if_pos c3] at hQ
        refine ev_iinc u3 (1) dX10_nextUnderWay_60 rfl (by decide) (ev_hw rfl) ?_
        show ev_E g m_X10_nextUnderWay 2 0 63 [some (ev_o 10 a), some (ev_i u1), some (ev_i u2), some (ev_i (u3 + 1))] [] S Q
        refine ev_goto 4 dX10_nextUnderWay_63 (by decide) ?_
        exact hQ
      · rw [if_neg c3] at hQ
        refine ev_iload_n (u2) dX10_nextUnderWay_36 rfl ?_
        refine ev_iconst (-1) dX10_nextUnderWay_37 rfl ?_
        refine ev_icmp_eq 58 dX10_nextUnderWay_38 (by decide) (fun c4 => ?_) (fun c4 => ?_)
        · rw [if_pos c4] at hQ
          refine ev_iload_n (u3) dX10_nextUnderWay_58 rfl ?_
          refine ev_istore_n dX10_nextUnderWay_59 (Nat.le_of_ble_eq_true rfl) (ev_hw rfl) ?_
          show ev_E g m_X10_nextUnderWay 2 0 60 [some (ev_o 10 a), some (ev_i u1), some (ev_i u3), some (ev_i u3)] [] S Q
          refine ev_iinc u3 (1) dX10_nextUnderWay_60 rfl (by decide) (ev_hw rfl) ?_
          show ev_E g m_X10_nextUnderWay 2 0 63 [some (ev_o 10 a), some (ev_i u1), some (ev_i u3), some (ev_i (u3 + 1))] [] S Q
          refine ev_goto 4 dX10_nextUnderWay_63 (by decide) ?_
          exact hQ
        · rw [if_neg c4] at hQ
          refine ev_aload_n (ev_o 10 a) dX10_nextUnderWay_41 rfl rfl ?_
          refine ev_iload_n (u3) dX10_nextUnderWay_42 rfl ?_
          refine ev_bipush (8) dX10_nextUnderWay_43 (by decide) ?_
          refine ev_fV mv_X10_ofL 1 10 [ev_i u3, ev_i 8] [] dX10_nextUnderWay_45 kw_2129 rfl (by decide) rfl (by decide) (Nat.le_of_ble_eq_true rfl) (sp_X10_ofL a u3 8 h2) ?_ rfl
          refine ev_aload_n (ev_o 10 a) dX10_nextUnderWay_48 rfl rfl ?_
          refine ev_iload_n (u2) dX10_nextUnderWay_49 rfl ?_
          refine ev_bipush (8) dX10_nextUnderWay_50 (by decide) ?_
          obtain ⟨h3, hQ⟩ := hQ
          refine ev_fV mv_X10_ofL 1 10 [ev_i u2, ev_i 8] [ev_i (S.1 (a + 1) ((1200 + (11 * u3)) + 8).toNatClampNeg)] dX10_nextUnderWay_52 kw_2129 rfl (by decide) rfl (by decide) (Nat.le_of_ble_eq_true rfl) (sp_X10_ofL a u2 8 h3) ?_ rfl
          refine ev_icmp_ge 60 dX10_nextUnderWay_55 (by decide) (fun c5 => ?_) (fun c5 => ?_)
          · rw [if_pos c5] at hQ
            refine ev_iinc u3 (1) dX10_nextUnderWay_60 rfl (by decide) (ev_hw rfl) ?_
            show ev_E g m_X10_nextUnderWay 2 0 63 [some (ev_o 10 a), some (ev_i u1), some (ev_i u2), some (ev_i (u3 + 1))] [] S Q
            refine ev_goto 4 dX10_nextUnderWay_63 (by decide) ?_
            exact hQ
          · rw [if_neg c5] at hQ
            refine ev_iload_n (u3) dX10_nextUnderWay_58 rfl ?_
            refine ev_istore_n dX10_nextUnderWay_59 (Nat.le_of_ble_eq_true rfl) (ev_hw rfl) ?_
            show ev_E g m_X10_nextUnderWay 2 0 60 [some (ev_o 10 a), some (ev_i u1), some (ev_i u3), some (ev_i u3)] [] S Q
            refine ev_iinc u3 (1) dX10_nextUnderWay_60 rfl (by decide) (ev_hw rfl) ?_
            show ev_E g m_X10_nextUnderWay 2 0 63 [some (ev_o 10 a), some (ev_i u1), some (ev_i u3), some (ev_i (u3 + 1))] [] S Q
            refine ev_goto 4 dX10_nextUnderWay_63 (by decide) ?_
            exact hQ
set_option maxHeartbeats 4000000 in
set_option maxRecDepth 100000 in
theorem sg_X10_goesOn_0 {g : ev_G} {S : ev_S} {Q : ev_O → ev_S → Prop} (a : Nat) (x0 : Int32) (hQ : (vp_in ((1200 + (11 * x0)) + 1) 2091) ∧ (
    (vp_in ((1140 + (15 * (S.1 (a + 1) ((1200 + (11 * x0)) + 1).toNatClampNeg))) + (3 + (ev_rem ((S.1 (a + 1) 2) / 30) 12))) 2091) ∧ (
      if (t_X10_isClosed S a (S.1 (a + 1) ((1200 + (11 * x0)) + 1).toNatClampNeg)) = true then (
        Q (.inl none) S)
      else (
        (vp_in ((1200 + (11 * x0)) + 9) 2091) ∧ (
          ∀ S1 : ev_S, S1 = (ev_up S (a + 1) ((1200 + (11 * x0)) + 9).toNatClampNeg ((S.1 (a + 1) ((1200 + (11 * x0)) + 9).toNatClampNeg) - 1)) → (
            if ((S.1 (a + 1) ((1200 + (11 * x0)) + 9).toNatClampNeg) - 1) = 0 then (
              ev_Cv g m_X10_arrives 6 0 [ev_o 10 a, ev_i x0] S1 (fun o S2 => o = .inl none ∧ (
                Q (.inl none) S2)))
            else (
              Q (.inl none) S1))))))) : ev_Cv g m_X10_goesOn 7 0 [ev_o 10 a, ev_i x0] S Q := by
  refine ev_enter (by decide) rfl rfl (Nat.le_of_ble_eq_true rfl) ?_
  show ev_E g m_X10_goesOn 7 0 0 [some (ev_o 10 a), some (ev_i x0)] [] S Q
  refine ev_aload_n (ev_o 10 a) dX10_goesOn_0 rfl rfl ?_
  refine ev_aload_n (ev_o 10 a) dX10_goesOn_1 rfl rfl ?_
  refine ev_iload_n (x0) dX10_goesOn_2 rfl ?_
  refine ev_iconst (1) dX10_goesOn_3 rfl ?_
  obtain ⟨h1, hQ⟩ := hQ
  refine ev_fV mv_X10_ofL 1 10 [ev_i x0, ev_i 1] [ev_o 10 a] dX10_goesOn_4 kw_2129 rfl (by decide) rfl (by decide) (Nat.le_of_ble_eq_true rfl) (sp_X10_ofL a x0 1 h1) ?_ rfl
  obtain ⟨h2, hQ⟩ := hQ
  refine ev_fV mv_X10_isClosed 3 10 [ev_i (S.1 (a + 1) ((1200 + (11 * x0)) + 1).toNatClampNeg)] [] dX10_goesOn_7 kw_2149 rfl (by decide) rfl (by decide) (Nat.le_of_ble_eq_true rfl) (sp_X10_isClosed a (S.1 (a + 1) ((1200 + (11 * x0)) + 1).toNatClampNeg) h2) ?_ rfl
  by_cases c1 : (t_X10_isClosed S a (S.1 (a + 1) ((1200 + (11 * x0)) + 1).toNatClampNeg)) = true
  · rw [if_pos c1]
    rw [if_pos c1] at hQ
    refine ev_if_eq 14 dX10_goesOn_10 (by decide) (fun h9 => absurd h9 (by decide : ¬ ((1 : Int32) = 0))) (fun _ => ?_)
    exact ev_return dX10_goesOn_13 rfl hQ
  · rw [if_neg c1]
    rw [if_neg c1] at hQ
    refine ev_if_eq 14 dX10_goesOn_10 (by decide) (fun _ => ?_) (fun h9 => absurd (by decide : ((0 : Int32) = 0)) h9)
    refine ev_aload_n (ev_o 10 a) dX10_goesOn_14 rfl rfl ?_
    refine ev_iload_n (x0) dX10_goesOn_15 rfl ?_
    refine ev_bipush (9) dX10_goesOn_16 (by decide) ?_
    refine ev_aload_n (ev_o 10 a) dX10_goesOn_18 rfl rfl ?_
    refine ev_iload_n (x0) dX10_goesOn_19 rfl ?_
    refine ev_bipush (9) dX10_goesOn_20 (by decide) ?_
    obtain ⟨h3, hQ⟩ := hQ
    refine ev_fV mv_X10_ofL 1 10 [ev_i x0, ev_i 9] [ev_i 9, ev_i x0, ev_o 10 a] dX10_goesOn_22 kw_2129 rfl (by decide) rfl (by decide) (Nat.le_of_ble_eq_true rfl) (sp_X10_ofL a x0 9 h3) ?_ rfl
    refine ev_iconst (1) dX10_goesOn_25 rfl ?_
    refine ev_isub dX10_goesOn_26 ?_
    refine ev_fVn mv_X10_putL 1 10 [ev_i x0, ev_i 9, ev_i ((S.1 (a + 1) ((1200 + (11 * x0)) + 9).toNatClampNeg) - 1)] [] dX10_goesOn_27 kw_2085 rfl (by decide) rfl (by decide) (Nat.le_of_ble_eq_true rfl) (sp_X10_putL a x0 9 ((S.1 (a + 1) ((1200 + (11 * x0)) + 9).toNatClampNeg) - 1) h3) ?_ rfl
    obtain ⟨S1, hS1⟩ : ∃ z, z = (ev_up S (a + 1) ((1200 + (11 * x0)) + 9).toNatClampNeg ((S.1 (a + 1) ((1200 + (11 * x0)) + 9).toNatClampNeg) - 1)) := ⟨_, rfl⟩
    refine ev_E.goal (pc' := 30) (L' := [some (ev_o 10 a), some (ev_i x0)]) (K' := []) (S' := S1) ?_ rfl rfl rfl hS1
    replace hQ := hQ S1 hS1
    refine ev_aload_n (ev_o 10 a) dX10_goesOn_30 rfl rfl ?_
    refine ev_iload_n (x0) dX10_goesOn_31 rfl ?_
    refine ev_bipush (9) dX10_goesOn_32 (by decide) ?_
    refine ev_fV mv_X10_ofL 1 10 [ev_i x0, ev_i 9] [] dX10_goesOn_34 kw_2129 rfl (by decide) rfl (by decide) (Nat.le_of_ble_eq_true rfl) (sp_X10_ofL a x0 9 h3) ?_ rfl
    refine ev_ke (j_rs hS1) ?_
    refine ev_if_ne 45 dX10_goesOn_37 (by decide) (fun c2 => ?_) (fun c2 => ?_)
    · rw [if_neg c2] at hQ
      exact ev_return dX10_goesOn_45 rfl hQ
    · rw [if_pos c2] at hQ
      refine ev_aload_n (ev_o 10 a) dX10_goesOn_40 rfl rfl ?_
      refine ev_iload_n (x0) dX10_goesOn_41 rfl ?_
      refine ev_cV mv_X10_arrives 6 0 10 [ev_i x0] [] dX10_goesOn_42 kw_2165 rfl (by decide) rfl (by decide) (by decide) (Nat.le_of_ble_eq_true rfl) hQ ?_ rfl
      rintro o S2 ⟨rfl, hQ⟩
      show ev_E g m_X10_goesOn 7 0 45 [some (ev_o 10 a), some (ev_i x0)] [] S2 Q
      exact ev_return dX10_goesOn_45 rfl hQ
set_option maxHeartbeats 4000000 in
set_option maxRecDepth 100000 in
theorem sg_X10_leave_0 {g : ev_G} {S : ev_S} {Q : ev_O → ev_S → Prop} (a : Nat) (x0 : Int32) (x1 : Int32) (hQ : ev_Cv g m_X10_firstInQueue 2 0 [ev_o 10 a, ev_i x0, ev_i x1] S (fun o S1 => ∃ v1_ : Int32, o = .inl (some (ev_i v1_)) ∧ (
    ev_E g m_X10_leave 3 0 7 [some (ev_o 10 a), some (ev_i x0), some (ev_i x1), some (ev_i v1_)] [] S1 Q))) : ev_Cv g m_X10_leave 3 0 [ev_o 10 a, ev_i x0, ev_i x1] S Q := by
  refine ev_enter (by decide) rfl rfl (Nat.le_of_ble_eq_true rfl) ?_
  show ev_E g m_X10_leave 3 0 0 [some (ev_o 10 a), some (ev_i x0), some (ev_i x1), none] [] S Q
  refine ev_aload_n (ev_o 10 a) dX10_leave_0 rfl rfl ?_
  refine ev_iload_n (x0) dX10_leave_1 rfl ?_
  refine ev_iload_n (x1) dX10_leave_2 rfl ?_
  refine ev_cV mv_X10_firstInQueue 2 0 10 [ev_i x0, ev_i x1] [] dX10_leave_3 kw_2177 rfl (by decide) rfl (by decide) (by decide) (Nat.le_of_ble_eq_true rfl) hQ ?_ rfl
  rintro o S1 ⟨v1_, rfl, hQ⟩
  show ev_E g m_X10_leave 3 0 6 [some (ev_o 10 a), some (ev_i x0), some (ev_i x1), none] [ev_i v1_] S1 Q
  refine ev_istore_n dX10_leave_6 (Nat.le_of_ble_eq_true rfl) (ev_hw rfl) ?_
  show ev_E g m_X10_leave 3 0 7 [some (ev_o 10 a), some (ev_i x0), some (ev_i x1), some (ev_i v1_)] [] S1 Q
  exact hQ
set_option maxHeartbeats 4000000 in
set_option maxRecDepth 100000 in
theorem sg_X10_leave_7 {g : ev_G} {S : ev_S} {Q : ev_O → ev_S → Prop} (a : Nat) (u1 : Int32) (u2 : Int32) (u3 : Int32) (hQ : if u3 = (-1) then (
    Q (.inl none) S)
  else (
    (vp_in ((1140 + (15 * u1)) + (1 + u2)) 2091) ∧ (
      if (S.1 (a + 1) ((1140 + (15 * u1)) + (1 + u2)).toNatClampNeg) ≤ 0 then (
        Q (.inl none) S)
      else (
        ∀ S1 : ev_S, S1 = (ev_up S (a + 1) ((1140 + (15 * u1)) + (1 + u2)).toNatClampNeg ((S.1 (a + 1) ((1140 + (15 * u1)) + (1 + u2)).toNatClampNeg) - 1)) → (
          ∀ S2 : ev_S, S2 = (ev_up S1 (a + 1) 6 ((S1.1 (a + 1) 6) + 1)) → (
            (vp_in ((1200 + (11 * u3)) + 6) 2091) ∧ (
              ∀ S3 : ev_S, S3 = (ev_up S2 (a + 1) ((1200 + (11 * u3)) + 6).toNatClampNeg 1) → (
                (vp_in ((1200 + (11 * u3)) + 8) 2091) ∧ (
                  ∀ S4 : ev_S, S4 = (ev_up S3 (a + 1) ((1200 + (11 * u3)) + 8).toNatClampNeg (S3.1 (a + 1) 6)) → (
                    (vp_in ((1140 + (15 * u1)) + 0) 2091) ∧ (
                      (vp_in ((1140 + (15 * u1)) + (3 + (ev_rem ((S4.1 (a + 1) 2) / 30) 12))) 2091) ∧ (
                        (vp_in ((1200 + (11 * u3)) + 9) 2091) ∧ (
                          ∀ S5 : ev_S, S5 = (ev_up S4 (a + 1) ((1200 + (11 * u3)) + 9).toNatClampNeg ((S4.1 (a + 1) ((1140 + (15 * u1)) + 0).toNatClampNeg) + (S4.1 (a + 1) ((1140 + (15 * u1)) + (3 + (ev_rem ((S4.1 (a + 1) 2) / 30) 12))).toNatClampNeg))) → (
                            ev_Cv g m_X10_firstInQueue 2 0 [ev_o 10 a, ev_i u1, ev_i u2] S5 (fun o S6 => ∃ v1_ : Int32, o = .inl (some (ev_i v1_)) ∧ (
                              ev_E g m_X10_leave 3 0 7 [some (ev_o 10 a), some (ev_i u1), some (ev_i u2), some (ev_i v1_)] [] S6 Q)))))))))))))))) : ev_E g m_X10_leave 3 0 7 [some (ev_o 10 a), some (ev_i u1), some (ev_i u2), some (ev_i u3)] [] S Q := by
  refine ev_iload_n (u3) dX10_leave_7 rfl ?_
  refine ev_iconst (-1) dX10_leave_8 rfl ?_
  refine ev_icmp_eq 103 dX10_leave_9 (by decide) (fun c1 => ?_) (fun c1 => ?_)
  · rw [if_pos c1] at hQ
    exact ev_return dX10_leave_103 rfl hQ
  · rw [if_neg c1] at hQ
    refine ev_aload_n (ev_o 10 a) dX10_leave_12 rfl rfl ?_
    refine ev_iload_n (u1) dX10_leave_13 rfl ?_
    refine ev_iconst (1) dX10_leave_14 rfl ?_
    refine ev_iload_n (u2) dX10_leave_15 rfl ?_
    refine ev_iadd dX10_leave_16 ?_
    obtain ⟨h1, hQ⟩ := hQ
    refine ev_fV mv_X10_ofPass 1 10 [ev_i u1, ev_i (1 + u2)] [] dX10_leave_17 kw_2161 rfl (by decide) rfl (by decide) (Nat.le_of_ble_eq_true rfl) (sp_X10_ofPass a u1 (1 + u2) h1) ?_ rfl
    refine ev_if_le 103 dX10_leave_20 (by decide) (fun c2 => ?_) (fun c2 => ?_)
    · rw [if_pos c2] at hQ
      exact ev_return dX10_leave_103 rfl hQ
    · rw [if_neg c2] at hQ
      refine ev_aload_n (ev_o 10 a) dX10_leave_23 rfl rfl ?_
      refine ev_iload_n (u1) dX10_leave_24 rfl ?_
      refine ev_iconst (1) dX10_leave_25 rfl ?_
      refine ev_iload_n (u2) dX10_leave_26 rfl ?_
      refine ev_iadd dX10_leave_27 ?_
      refine ev_aload_n (ev_o 10 a) dX10_leave_28 rfl rfl ?_
      refine ev_iload_n (u1) dX10_leave_29 rfl ?_
      refine ev_iconst (1) dX10_leave_30 rfl ?_
      refine ev_iload_n (u2) dX10_leave_31 rfl ?_
      refine ev_iadd dX10_leave_32 ?_
      refine ev_fV mv_X10_ofPass 1 10 [ev_i u1, ev_i (1 + u2)] [ev_i (1 + u2), ev_i u1, ev_o 10 a] dX10_leave_33 kw_2161 rfl (by decide) rfl (by decide) (Nat.le_of_ble_eq_true rfl) (sp_X10_ofPass a u1 (1 + u2) h1) ?_ rfl
      refine ev_iconst (1) dX10_leave_36 rfl ?_
      refine ev_isub dX10_leave_37 ?_
      refine ev_fVn mv_X10_putPass 1 10 [ev_i u1, ev_i (1 + u2), ev_i ((S.1 (a + 1) ((1140 + (15 * u1)) + (1 + u2)).toNatClampNeg) - 1)] [] dX10_leave_38 kw_1844 rfl (by decide) rfl (by decide) (Nat.le_of_ble_eq_true rfl) (sp_X10_putPass a u1 (1 + u2) ((S.1 (a + 1) ((1140 + (15 * u1)) + (1 + u2)).toNatClampNeg) - 1) h1) ?_ rfl
      obtain ⟨S1, hS1⟩ : ∃ z, z = (ev_up S (a + 1) ((1140 + (15 * u1)) + (1 + u2)).toNatClampNeg ((S.1 (a + 1) ((1140 + (15 * u1)) + (1 + u2)).toNatClampNeg) - 1)) := ⟨_, rfl⟩
      refine ev_E.goal (pc' := 41) (L' := [some (ev_o 10 a), some (ev_i u1), some (ev_i u2), some (ev_i u3)]) (K' := []) (S' := S1) ?_ rfl rfl rfl hS1
      replace hQ := hQ S1 hS1
      refine ev_aload_n (ev_o 10 a) dX10_leave_41 rfl rfl ?_
      refine gf_10_0 dX10_leave_42 kw_1853 ?_
      refine ev_bipush (6) dX10_leave_45 (by decide) ?_
      refine ev_dup2 dX10_leave_47 rfl rfl ?_
      refine ev_iaload dX10_leave_48 (j_vin (by decide)) ?_
      refine ev_iconst (1) dX10_leave_49 rfl ?_
      refine ev_iadd dX10_leave_50 ?_
      refine ev_iastore dX10_leave_51 (j_vin (by decide)) ?_
      obtain ⟨S2, hS2⟩ : ∃ z, z = (ev_up S1 (a + 1) 6 ((S1.1 (a + 1) 6) + 1)) := ⟨_, rfl⟩
      refine ev_E.goal (pc' := 52) (L' := [some (ev_o 10 a), some (ev_i u1), some (ev_i u2), some (ev_i u3)]) (K' := []) (S' := S2) ?_ rfl rfl rfl hS2
      replace hQ := hQ S2 hS2
      refine ev_aload_n (ev_o 10 a) dX10_leave_52 rfl rfl ?_
      refine ev_iload_n (u3) dX10_leave_53 rfl ?_
      refine ev_bipush (6) dX10_leave_54 (by decide) ?_
      refine ev_iconst (1) dX10_leave_56 rfl ?_
      obtain ⟨h2, hQ⟩ := hQ
      refine ev_fVn mv_X10_putL 1 10 [ev_i u3, ev_i 6, ev_i 1] [] dX10_leave_57 kw_2085 rfl (by decide) rfl (by decide) (Nat.le_of_ble_eq_true rfl) (sp_X10_putL a u3 6 1 h2) ?_ rfl
      obtain ⟨S3, hS3⟩ : ∃ z, z = (ev_up S2 (a + 1) ((1200 + (11 * u3)) + 6).toNatClampNeg 1) := ⟨_, rfl⟩
      refine ev_E.goal (pc' := 60) (L' := [some (ev_o 10 a), some (ev_i u1), some (ev_i u2), some (ev_i u3)]) (K' := []) (S' := S3) ?_ rfl rfl rfl hS3
      replace hQ := hQ S3 hS3
      refine ev_aload_n (ev_o 10 a) dX10_leave_60 rfl rfl ?_
      refine ev_iload_n (u3) dX10_leave_61 rfl ?_
      refine ev_bipush (8) dX10_leave_62 (by decide) ?_
      refine ev_aload_n (ev_o 10 a) dX10_leave_64 rfl rfl ?_
      refine gf_10_0 dX10_leave_65 kw_1853 ?_
      refine ev_bipush (6) dX10_leave_68 (by decide) ?_
      refine ev_iaload dX10_leave_70 (j_vin (by decide)) ?_
      obtain ⟨h3, hQ⟩ := hQ
      refine ev_fVn mv_X10_putL 1 10 [ev_i u3, ev_i 8, ev_i (S3.1 (a + 1) 6)] [] dX10_leave_71 kw_2085 rfl (by decide) rfl (by decide) (Nat.le_of_ble_eq_true rfl) (sp_X10_putL a u3 8 (S3.1 (a + 1) 6) h3) ?_ rfl
      obtain ⟨S4, hS4⟩ : ∃ z, z = (ev_up S3 (a + 1) ((1200 + (11 * u3)) + 8).toNatClampNeg (S3.1 (a + 1) 6)) := ⟨_, rfl⟩
      refine ev_E.goal (pc' := 74) (L' := [some (ev_o 10 a), some (ev_i u1), some (ev_i u2), some (ev_i u3)]) (K' := []) (S' := S4) ?_ rfl rfl rfl hS4
      replace hQ := hQ S4 hS4
      refine ev_aload_n (ev_o 10 a) dX10_leave_74 rfl rfl ?_
      refine ev_iload_n (u3) dX10_leave_75 rfl ?_
      refine ev_bipush (9) dX10_leave_76 (by decide) ?_
      refine ev_aload_n (ev_o 10 a) dX10_leave_78 rfl rfl ?_
      refine ev_iload_n (u1) dX10_leave_79 rfl ?_
      refine ev_iconst (0) dX10_leave_80 rfl ?_
      obtain ⟨h4, hQ⟩ := hQ
      refine ev_fV mv_X10_ofPass 1 10 [ev_i u1, ev_i 0] [ev_i 9, ev_i u3, ev_o 10 a] dX10_leave_81 kw_2161 rfl (by decide) rfl (by decide) (Nat.le_of_ble_eq_true rfl) (sp_X10_ofPass a u1 0 h4) ?_ rfl
      refine ev_aload_n (ev_o 10 a) dX10_leave_84 rfl rfl ?_
      refine ev_iload_n (u1) dX10_leave_85 rfl ?_
      obtain ⟨h5, hQ⟩ := hQ
      refine ev_fV mv_X10_snowNow 2 10 [ev_i u1] [ev_i (S4.1 (a + 1) ((1140 + (15 * u1)) + 0).toNatClampNeg), ev_i 9, ev_i u3, ev_o 10 a] dX10_leave_86 kw_2153 rfl (by decide) rfl (by decide) (Nat.le_of_ble_eq_true rfl) (sp_X10_snowNow a u1 h5) ?_ rfl
      refine ev_iadd dX10_leave_89 ?_
      obtain ⟨h6, hQ⟩ := hQ
      refine ev_fVn mv_X10_putL 1 10 [ev_i u3, ev_i 9, ev_i ((S4.1 (a + 1) ((1140 + (15 * u1)) + 0).toNatClampNeg) + (S4.1 (a + 1) ((1140 + (15 * u1)) + (3 + (ev_rem ((S4.1 (a + 1) 2) / 30) 12))).toNatClampNeg))] [] dX10_leave_90 kw_2085 rfl (by decide) rfl (by decide) (Nat.le_of_ble_eq_true rfl) (sp_X10_putL a u3 9 ((S4.1 (a + 1) ((1140 + (15 * u1)) + 0).toNatClampNeg) + (S4.1 (a + 1) ((1140 + (15 * u1)) + (3 + (ev_rem ((S4.1 (a + 1) 2) / 30) 12))).toNatClampNeg)) h6) ?_ rfl
      obtain ⟨S5, hS5⟩ : ∃ z, z = (ev_up S4 (a + 1) ((1200 + (11 * u3)) + 9).toNatClampNeg ((S4.1 (a + 1) ((1140 + (15 * u1)) + 0).toNatClampNeg) + (S4.1 (a + 1) ((1140 + (15 * u1)) + (3 + (ev_rem ((S4.1 (a + 1) 2) / 30) 12))).toNatClampNeg))) := ⟨_, rfl⟩
      refine ev_E.goal (pc' := 93) (L' := [some (ev_o 10 a), some (ev_i u1), some (ev_i u2), some (ev_i u3)]) (K' := []) (S' := S5) ?_ rfl rfl rfl hS5
      replace hQ := hQ S5 hS5
      refine ev_aload_n (ev_o 10 a) dX10_leave_93 rfl rfl ?_
      refine ev_iload_n (u1) dX10_leave_94 rfl ?_
      refine ev_iload_n (u2) dX10_leave_95 rfl ?_
      refine ev_cV mv_X10_firstInQueue 2 0 10 [ev_i u1, ev_i u2] [] dX10_leave_96 kw_2177 rfl (by decide) rfl (by decide) (by decide) (Nat.le_of_ble_eq_true rfl) hQ ?_ rfl
      rintro o S6 ⟨v1_, rfl, hQ⟩
      show ev_E g m_X10_leave 3 0 99 [some (ev_o 10 a), some (ev_i u1), some (ev_i u2), some (ev_i u3)] [ev_i v1_] S6 Q
      refine ev_istore_n dX10_leave_99 (Nat.le_of_ble_eq_true rfl) (ev_hw rfl) ?_
      show ev_E g m_X10_leave 3 0 100 [some (ev_o 10 a), some (ev_i u1), some (ev_i u2), some (ev_i v1_)] [] S6 Q
      refine ev_goto 7 dX10_leave_100 (by decide) ?_
      exact hQ
set_option maxHeartbeats 4000000 in
set_option maxRecDepth 100000 in
theorem sg_X10_dayPasses_0 {g : ev_G} {S : ev_S} {Q : ev_O → ev_S → Prop} (a : Nat) (hQ : ∀ S1 : ev_S, S1 = (ev_up S (a + 1) 2 ((S.1 (a + 1) 2) + 1)) → (
    ev_Cv g m_X10_nextUnderWay 2 0 [ev_o 10 a, ev_i 0] S1 (fun o S2 => ∃ v1_ : Int32, o = .inl (some (ev_i v1_)) ∧ (
      ev_E g m_X10_dayPasses 8 0 16 [some (ev_o 10 a), some (ev_i v1_)] [] S2 Q)))) : ev_Cv g m_X10_dayPasses 8 0 [ev_o 10 a] S Q := by
  refine ev_enter (by decide) rfl rfl (Nat.le_of_ble_eq_true rfl) ?_
  show ev_E g m_X10_dayPasses 8 0 0 [some (ev_o 10 a), none] [] S Q
  refine ev_aload_n (ev_o 10 a) dX10_dayPasses_0 rfl rfl ?_
  refine gf_10_0 dX10_dayPasses_1 kw_1853 ?_
  refine ev_iconst (2) dX10_dayPasses_4 rfl ?_
  refine ev_dup2 dX10_dayPasses_5 rfl rfl ?_
  refine ev_iaload dX10_dayPasses_6 (j_vin (by decide)) ?_
  refine ev_iconst (1) dX10_dayPasses_7 rfl ?_
  refine ev_iadd dX10_dayPasses_8 ?_
  refine ev_iastore dX10_dayPasses_9 (j_vin (by decide)) ?_
  obtain ⟨S1, hS1⟩ : ∃ z, z = (ev_up S (a + 1) 2 ((S.1 (a + 1) 2) + 1)) := ⟨_, rfl⟩
  refine ev_E.goal (pc' := 10) (L' := [some (ev_o 10 a), none]) (K' := []) (S' := S1) ?_ rfl rfl rfl hS1
  replace hQ := hQ S1 hS1
  refine ev_aload_n (ev_o 10 a) dX10_dayPasses_10 rfl rfl ?_
  refine ev_iconst (0) dX10_dayPasses_11 rfl ?_
  refine ev_cV mv_X10_nextUnderWay 2 0 10 [ev_i 0] [] dX10_dayPasses_12 kw_2141 rfl (by decide) rfl (by decide) (by decide) (Nat.le_of_ble_eq_true rfl) hQ ?_ rfl
  rintro o S2 ⟨v1_, rfl, hQ⟩
  show ev_E g m_X10_dayPasses 8 0 15 [some (ev_o 10 a), none] [ev_i v1_] S2 Q
  refine ev_istore_n dX10_dayPasses_15 (Nat.le_of_ble_eq_true rfl) (ev_hw rfl) ?_
  show ev_E g m_X10_dayPasses 8 0 16 [some (ev_o 10 a), some (ev_i v1_)] [] S2 Q
  exact hQ
set_option maxHeartbeats 4000000 in
set_option maxRecDepth 100000 in
theorem sg_X10_dayPasses_16 {g : ev_G} {S : ev_S} {Q : ev_O → ev_S → Prop} (a : Nat) (u1 : Int32) (hQ : if u1 = (-1) then (
    ev_E g m_X10_dayPasses 8 0 43 [some (ev_o 10 a), some (ev_i 0)] [] S Q)
  else (
    ev_Cv g m_X10_goesOn 7 0 [ev_o 10 a, ev_i u1] S (fun o S1 => o = .inl none ∧ (
      (vp_in ((1200 + (11 * u1)) + 8) 2091) ∧ (
        ev_Cv g m_X10_nextUnderWay 2 0 [ev_o 10 a, ev_i (S1.1 (a + 1) ((1200 + (11 * u1)) + 8).toNatClampNeg)] S1 (fun o S2 => ∃ v2_ : Int32, o = .inl (some (ev_i v2_)) ∧ (
          ev_E g m_X10_dayPasses 8 0 16 [some (ev_o 10 a), some (ev_i v2_)] [] S2 Q))))))) : ev_E g m_X10_dayPasses 8 0 16 [some (ev_o 10 a), some (ev_i u1)] [] S Q := by
  refine ev_iload_n (u1) dX10_dayPasses_16 rfl ?_
  refine ev_iconst (-1) dX10_dayPasses_17 rfl ?_
  refine ev_icmp_eq 41 dX10_dayPasses_18 (by decide) (fun c1 => ?_) (fun c1 => ?_)
  · rw [if_pos c1] at hQ
    refine ev_iconst (0) dX10_dayPasses_41 rfl ?_
    refine ev_istore_n dX10_dayPasses_42 (Nat.le_of_ble_eq_true rfl) (ev_hw rfl) ?_
    show ev_E g m_X10_dayPasses 8 0 43 [some (ev_o 10 a), some (ev_i 0)] [] S Q
    exact hQ
  · rw [if_neg c1] at hQ
    refine ev_aload_n (ev_o 10 a) dX10_dayPasses_21 rfl rfl ?_
    refine ev_iload_n (u1) dX10_dayPasses_22 rfl ?_
    refine ev_cV mv_X10_goesOn 7 0 10 [ev_i u1] [] dX10_dayPasses_23 kw_2145 rfl (by decide) rfl (by decide) (by decide) (Nat.le_of_ble_eq_true rfl) hQ ?_ rfl
    rintro o S1 ⟨rfl, hQ⟩
    show ev_E g m_X10_dayPasses 8 0 26 [some (ev_o 10 a), some (ev_i u1)] [] S1 Q
    refine ev_aload_n (ev_o 10 a) dX10_dayPasses_26 rfl rfl ?_
    refine ev_aload_n (ev_o 10 a) dX10_dayPasses_27 rfl rfl ?_
    refine ev_iload_n (u1) dX10_dayPasses_28 rfl ?_
    refine ev_bipush (8) dX10_dayPasses_29 (by decide) ?_
    obtain ⟨h1, hQ⟩ := hQ
    refine ev_fV mv_X10_ofL 1 10 [ev_i u1, ev_i 8] [ev_o 10 a] dX10_dayPasses_31 kw_2129 rfl (by decide) rfl (by decide) (Nat.le_of_ble_eq_true rfl) (sp_X10_ofL a u1 8 h1) ?_ rfl
    refine ev_cV mv_X10_nextUnderWay 2 0 10 [ev_i (S1.1 (a + 1) ((1200 + (11 * u1)) + 8).toNatClampNeg)] [] dX10_dayPasses_34 kw_2141 rfl (by decide) rfl (by decide) (by decide) (Nat.le_of_ble_eq_true rfl) hQ ?_ rfl
    rintro o S2 ⟨v2_, rfl, hQ⟩
    show ev_E g m_X10_dayPasses 8 0 37 [some (ev_o 10 a), some (ev_i u1)] [ev_i v2_] S2 Q
    refine ev_istore_n dX10_dayPasses_37 (Nat.le_of_ble_eq_true rfl) (ev_hw rfl) ?_
    show ev_E g m_X10_dayPasses 8 0 38 [some (ev_o 10 a), some (ev_i v2_)] [] S2 Q
    refine ev_goto 16 dX10_dayPasses_38 (by decide) ?_
    exact hQ
set_option maxHeartbeats 4000000 in
set_option maxRecDepth 100000 in
theorem sg_X10_dayPasses_43 {g : ev_G} {S : ev_S} {Q : ev_O → ev_S → Prop} (a : Nat) (u1 : Int32) (hQ : if (S.1 (a + 1) 3) ≤ u1 then (
    Q (.inl none) S)
  else (
    (vp_in ((1140 + (15 * u1)) + (3 + (ev_rem ((S.1 (a + 1) 2) / 30) 12))) 2091) ∧ (
      if (t_X10_isClosed S a u1) = true then (
        ev_E g m_X10_dayPasses 8 0 43 [some (ev_o 10 a), some (ev_i (u1 + 1))] [] S Q)
      else (
        ev_Cv g m_X10_leave 3 0 [ev_o 10 a, ev_i u1, ev_i 0] S (fun o S1 => o = .inl none ∧ (
          ev_Cv g m_X10_leave 3 0 [ev_o 10 a, ev_i u1, ev_i 1] S1 (fun o S2 => o = .inl none ∧ (
            ev_E g m_X10_dayPasses 8 0 43 [some (ev_o 10 a), some (ev_i (u1 + 1))] [] S2 Q)))))))) : ev_E g m_X10_dayPasses 8 0 43 [some (ev_o 10 a), some (ev_i u1)] [] S Q := by
  refine ev_iload_n (u1) dX10_dayPasses_43 rfl ?_
  refine ev_aload_n (ev_o 10 a) dX10_dayPasses_44 rfl rfl ?_
  refine gf_10_0 dX10_dayPasses_45 kw_1853 ?_
  refine ev_iconst (3) dX10_dayPasses_48 rfl ?_
  refine ev_iaload dX10_dayPasses_49 (j_vin (by decide)) ?_
  refine ev_icmp_ge 82 dX10_dayPasses_50 (by decide) (fun c1 => ?_) (fun c1 => ?_)
  · rw [if_pos c1] at hQ
    exact ev_return dX10_dayPasses_82 rfl hQ
  · rw [if_neg c1] at hQ
    refine ev_aload_n (ev_o 10 a) dX10_dayPasses_53 rfl rfl ?_
    refine ev_iload_n (u1) dX10_dayPasses_54 rfl ?_
    obtain ⟨h1, hQ⟩ := hQ
    refine ev_fV mv_X10_isClosed 3 10 [ev_i u1] [] dX10_dayPasses_55 kw_2149 rfl (by decide) rfl (by decide) (Nat.le_of_ble_eq_true rfl) (sp_X10_isClosed a u1 h1) ?_ rfl
    by_cases c2 : (t_X10_isClosed S a u1) = true
    · rw [if_pos c2]
      rw [if_pos c2] at hQ
      refine ev_if_eq 64 dX10_dayPasses_58 (by decide) (fun h9 => absurd h9 (by decide : ¬ ((1 : Int32) = 0))) (fun _ => ?_)
      refine ev_goto 76 dX10_dayPasses_61 (by decide) ?_
      refine ev_iinc u1 (1) dX10_dayPasses_76 rfl (by decide) (ev_hw rfl) ?_
      show ev_E g m_X10_dayPasses 8 0 79 [some (ev_o 10 a), some (ev_i (u1 + 1))] [] S Q
      refine ev_goto 43 dX10_dayPasses_79 (by decide) ?_
      exact hQ
    · rw [if_neg c2]
      rw [if_neg c2] at hQ
      refine ev_if_eq 64 dX10_dayPasses_58 (by decide) (fun _ => ?_) (fun h9 => absurd (by decide : ((0 : Int32) = 0)) h9)
      refine ev_aload_n (ev_o 10 a) dX10_dayPasses_64 rfl rfl ?_
      refine ev_iload_n (u1) dX10_dayPasses_65 rfl ?_
      refine ev_iconst (0) dX10_dayPasses_66 rfl ?_
      refine ev_cV mv_X10_leave 3 0 10 [ev_i u1, ev_i 0] [] dX10_dayPasses_67 kw_2173 rfl (by decide) rfl (by decide) (by decide) (Nat.le_of_ble_eq_true rfl) hQ ?_ rfl
      rintro o S1 ⟨rfl, hQ⟩
      show ev_E g m_X10_dayPasses 8 0 70 [some (ev_o 10 a), some (ev_i u1)] [] S1 Q
      refine ev_aload_n (ev_o 10 a) dX10_dayPasses_70 rfl rfl ?_
      refine ev_iload_n (u1) dX10_dayPasses_71 rfl ?_
      refine ev_iconst (1) dX10_dayPasses_72 rfl ?_
      refine ev_cV mv_X10_leave 3 0 10 [ev_i u1, ev_i 1] [] dX10_dayPasses_73 kw_2173 rfl (by decide) rfl (by decide) (by decide) (Nat.le_of_ble_eq_true rfl) hQ ?_ rfl
      rintro o S2 ⟨rfl, hQ⟩
      show ev_E g m_X10_dayPasses 8 0 76 [some (ev_o 10 a), some (ev_i u1)] [] S2 Q
      refine ev_iinc u1 (1) dX10_dayPasses_76 rfl (by decide) (ev_hw rfl) ?_
      show ev_E g m_X10_dayPasses 8 0 79 [some (ev_o 10 a), some (ev_i (u1 + 1))] [] S2 Q
      refine ev_goto 43 dX10_dayPasses_79 (by decide) ?_
      exact hQ
set_option maxHeartbeats 4000000 in
set_option maxRecDepth 100000 in
theorem sg_X10_tries_0 {g : ev_G} {S : ev_S} {Q : ev_O → ev_S → Prop} (a : Nat) (hQ : ev_E g m_X10_tries 1 0 2 [some (ev_o 10 a), some (ev_i 0)] [] S Q) : ev_Cv g m_X10_tries 1 0 [ev_o 10 a] S Q := by
  refine ev_enter (by decide) rfl rfl (Nat.le_of_ble_eq_true rfl) ?_
  show ev_E g m_X10_tries 1 0 0 [some (ev_o 10 a), none] [] S Q
  refine ev_iconst (0) dX10_tries_0 rfl ?_
  refine ev_istore_n dX10_tries_1 (Nat.le_of_ble_eq_true rfl) (ev_hw rfl) ?_
  show ev_E g m_X10_tries 1 0 2 [some (ev_o 10 a), some (ev_i 0)] [] S Q
  exact hQ
set_option maxHeartbeats 4000000 in
set_option maxRecDepth 100000 in
theorem sg_X10_tries_2 {g : ev_G} {S : ev_S} {Q : ev_O → ev_S → Prop} (a : Nat) (u1 : Int32) (hQ : if 2091 ≤ u1 then (
    Q (.inl none) S)
  else (
    (vp_in u1 2091) ∧ (
      ∀ S1 : ev_S, S1 = (ev_up S (a + 2) u1.toNatClampNeg (S.1 (a + 1) u1.toNatClampNeg)) → (
        ev_E g m_X10_tries 1 0 2 [some (ev_o 10 a), some (ev_i (u1 + 1))] [] S1 Q)))) : ev_E g m_X10_tries 1 0 2 [some (ev_o 10 a), some (ev_i u1)] [] S Q := by
  refine ev_iload_n (u1) dX10_tries_2 rfl ?_
  refine ev_sipush (2091) dX10_tries_3 (by decide) ?_
  refine ev_icmp_ge 27 dX10_tries_6 (by decide) (fun c1 => ?_) (fun c1 => ?_)
  · rw [if_pos c1] at hQ
    exact ev_return dX10_tries_27 rfl hQ
  · rw [if_neg c1] at hQ
    refine ev_aload_n (ev_o 10 a) dX10_tries_9 rfl rfl ?_
    refine gf_10_1 dX10_tries_10 kw_1854 ?_
    refine ev_iload_n (u1) dX10_tries_13 rfl ?_
    refine ev_aload_n (ev_o 10 a) dX10_tries_14 rfl rfl ?_
    refine gf_10_0 dX10_tries_15 kw_1853 ?_
    refine ev_iload_n (u1) dX10_tries_18 rfl ?_
    obtain ⟨h1, hQ⟩ := hQ
    refine ev_iaload dX10_tries_19 h1 ?_
    refine ev_iastore dX10_tries_20 h1 ?_
    obtain ⟨S1, hS1⟩ : ∃ z, z = (ev_up S (a + 2) u1.toNatClampNeg (S.1 (a + 1) u1.toNatClampNeg)) := ⟨_, rfl⟩
    refine ev_E.goal (pc' := 21) (L' := [some (ev_o 10 a), some (ev_i u1)]) (K' := []) (S' := S1) ?_ rfl rfl rfl hS1
    replace hQ := hQ S1 hS1
    refine ev_iinc u1 (1) dX10_tries_21 rfl (by decide) (ev_hw rfl) ?_
    show ev_E g m_X10_tries 1 0 24 [some (ev_o 10 a), some (ev_i (u1 + 1))] [] S1 Q
    refine ev_goto 2 dX10_tries_24 (by decide) ?_
    exact hQ
set_option maxHeartbeats 4000000 in
set_option maxRecDepth 100000 in
theorem sg_X10_back_0 {g : ev_G} {S : ev_S} {Q : ev_O → ev_S → Prop} (a : Nat) (x0 : Int32) (hQ : ev_E g m_X10_back 1 0 2 [some (ev_o 10 a), some (ev_i x0), some (ev_i 0)] [] S Q) : ev_Cv g m_X10_back 1 0 [ev_o 10 a, ev_i x0] S Q := by
  refine ev_enter (by decide) rfl rfl (Nat.le_of_ble_eq_true rfl) ?_
  show ev_E g m_X10_back 1 0 0 [some (ev_o 10 a), some (ev_i x0), none] [] S Q
  refine ev_iconst (0) dX10_back_0 rfl ?_
  refine ev_istore_n dX10_back_1 (Nat.le_of_ble_eq_true rfl) (ev_hw rfl) ?_
  show ev_E g m_X10_back 1 0 2 [some (ev_o 10 a), some (ev_i x0), some (ev_i 0)] [] S Q
  exact hQ
set_option maxHeartbeats 4000000 in
set_option maxRecDepth 100000 in
theorem sg_X10_back_2 {g : ev_G} {S : ev_S} {Q : ev_O → ev_S → Prop} (a : Nat) (u1 : Int32) (u2 : Int32) (hQ : if 2091 ≤ u2 then (
    ∀ S1 : ev_S, S1 = (ev_up S a 8 (-1)) → (
      Q (.inl (some (ev_i u1))) S1))
  else (
    (vp_in u2 2091) ∧ (
      ∀ S2 : ev_S, S2 = (ev_up S (a + 1) u2.toNatClampNeg (S.1 (a + 2) u2.toNatClampNeg)) → (
        ev_E g m_X10_back 1 0 2 [some (ev_o 10 a), some (ev_i u1), some (ev_i (u2 + 1))] [] S2 Q)))) : ev_E g m_X10_back 1 0 2 [some (ev_o 10 a), some (ev_i u1), some (ev_i u2)] [] S Q := by
  refine ev_iload_n (u2) dX10_back_2 rfl ?_
  refine ev_sipush (2091) dX10_back_3 (by decide) ?_
  refine ev_icmp_ge 27 dX10_back_6 (by decide) (fun c1 => ?_) (fun c1 => ?_)
  · rw [if_pos c1] at hQ
    refine ev_aload_n (ev_o 10 a) dX10_back_27 rfl rfl ?_
    refine ev_iconst (-1) dX10_back_28 rfl ?_
    refine pf_10_8 dX10_back_29 kw_1861 ?_
    obtain ⟨S1, hS1⟩ : ∃ z, z = (ev_up S a 8 (-1)) := ⟨_, rfl⟩
    refine ev_E.goal (pc' := 32) (L' := [some (ev_o 10 a), some (ev_i u1), some (ev_i u2)]) (K' := []) (S' := S1) ?_ rfl rfl rfl hS1
    replace hQ := hQ S1 hS1
    refine ev_iload_n (u1) dX10_back_32 rfl ?_
    exact ev_ireturn .int dX10_back_33 rfl rfl hQ
  · rw [if_neg c1] at hQ
    refine ev_aload_n (ev_o 10 a) dX10_back_9 rfl rfl ?_
    refine gf_10_0 dX10_back_10 kw_1853 ?_
    refine ev_iload_n (u2) dX10_back_13 rfl ?_
    refine ev_aload_n (ev_o 10 a) dX10_back_14 rfl rfl ?_
    refine gf_10_1 dX10_back_15 kw_1854 ?_
    refine ev_iload_n (u2) dX10_back_18 rfl ?_
    obtain ⟨h1, hQ⟩ := hQ
    refine ev_iaload dX10_back_19 h1 ?_
    refine ev_iastore dX10_back_20 h1 ?_
    obtain ⟨S2, hS2⟩ : ∃ z, z = (ev_up S (a + 1) u2.toNatClampNeg (S.1 (a + 2) u2.toNatClampNeg)) := ⟨_, rfl⟩
    refine ev_E.goal (pc' := 21) (L' := [some (ev_o 10 a), some (ev_i u1), some (ev_i u2)]) (K' := []) (S' := S2) ?_ rfl rfl rfl hS2
    replace hQ := hQ S2 hS2
    refine ev_iinc u2 (1) dX10_back_21 rfl (by decide) (ev_hw rfl) ?_
    show ev_E g m_X10_back 1 0 24 [some (ev_o 10 a), some (ev_i u1), some (ev_i (u2 + 1))] [] S2 Q
    refine ev_goto 2 dX10_back_24 (by decide) ?_
    exact hQ
set_option maxHeartbeats 4000000 in
set_option maxRecDepth 100000 in
theorem sg_X10_feeds_0 {g : ev_G} {S : ev_S} {Q : ev_O → ev_S → Prop} (a : Nat) (x0 : Int32) (hQ : ev_E g m_X10_feeds 1 0 3 [some (ev_o 10 a), some (ev_i x0), some (ev_i 24), none] [] S Q) : ev_Cv g m_X10_feeds 1 0 [ev_o 10 a, ev_i x0] S Q := by
  refine ev_enter (by decide) rfl rfl (Nat.le_of_ble_eq_true rfl) ?_
  show ev_E g m_X10_feeds 1 0 0 [some (ev_o 10 a), some (ev_i x0), none, none] [] S Q
  refine ev_bipush (24) dX10_feeds_0 (by decide) ?_
  refine ev_istore_n dX10_feeds_2 (Nat.le_of_ble_eq_true rfl) (ev_hw rfl) ?_
  show ev_E g m_X10_feeds 1 0 3 [some (ev_o 10 a), some (ev_i x0), some (ev_i 24), none] [] S Q
  exact hQ
set_option maxHeartbeats 4000000 in
set_option maxRecDepth 100000 in
theorem sg_X10_feeds_3 {g : ev_G} {S : ev_S} {Q : ev_O → ev_S → Prop} (a : Nat) (u1 : Int32) (u2 : Int32) (hQ : if u2 < 0 then (
    Q (.inl none) S)
  else (
    if ((j_ishr u1 u2) &&& 255) = 0 then (
      ev_E g m_X10_feeds 1 0 3 [some (ev_o 10 a), some (ev_i u1), some (ev_i (u2 + (-8))), none] [] S Q)
    else (
      if 800 ≤ (S.1 a 10) then (
        ∀ S1 : ev_S, S1 = (ev_up S a 10 ((S.1 a 10) + 1)) → (
          ev_E g m_X10_feeds 1 0 3 [some (ev_o 10 a), some (ev_i u1), some (ev_i (u2 + (-8))), none] [] S1 Q))
      else (
        (vp_in (S.1 a 10) 800) ∧ (
          ∀ S2 : ev_S, S2 = (ev_up S (a + 7) (S.1 a 10).toNatClampNeg ((j_ishr u1 u2) &&& 255)) → (
            ∀ S3 : ev_S, S3 = (ev_up S2 a 10 ((S.1 a 10) + 1)) → (
              ev_E g m_X10_feeds 1 0 3 [some (ev_o 10 a), some (ev_i u1), some (ev_i (u2 + (-8))), none] [] S3 Q))))))) : ev_E g m_X10_feeds 1 0 3 [some (ev_o 10 a), some (ev_i u1), some (ev_i u2), none] [] S Q := by
  refine ev_iload_n (u2) dX10_feeds_3 rfl ?_
  refine ev_if_lt 58 dX10_feeds_4 (by decide) (fun c1 => ?_) (fun c1 => ?_)
  · rw [if_pos c1] at hQ
    exact ev_return dX10_feeds_58 rfl hQ
  · rw [if_neg c1] at hQ
    refine ev_iload_n (u1) dX10_feeds_7 rfl ?_
    refine ev_iload_n (u2) dX10_feeds_8 rfl ?_
    refine ev_ishr dX10_feeds_9 ?_
    show ev_E g m_X10_feeds 1 0 10 [some (ev_o 10 a), some (ev_i u1), some (ev_i u2), none] [ev_i (j_ishr u1 u2)] S Q
    refine ev_sipush (255) dX10_feeds_10 (by decide) ?_
    refine ev_iand dX10_feeds_13 ?_
    refine ev_istore_n dX10_feeds_14 (Nat.le_of_ble_eq_true rfl) (ev_hw rfl) ?_
    show ev_E g m_X10_feeds 1 0 15 [some (ev_o 10 a), some (ev_i u1), some (ev_i u2), some (ev_i ((j_ishr u1 u2) &&& 255))] [] S Q
    refine ev_iload_n (((j_ishr u1 u2) &&& 255)) dX10_feeds_15 rfl ?_
    refine ev_if_ne 22 dX10_feeds_16 (by decide) (fun c2 => ?_) (fun c2 => ?_)
    · rw [if_neg c2] at hQ
      refine ev_aload_n (ev_o 10 a) dX10_feeds_22 rfl rfl ?_
      refine gf_10_10 dX10_feeds_23 kw_1863 ?_
      refine ev_sipush (800) dX10_feeds_26 (by decide) ?_
      refine ev_icmp_ge 42 dX10_feeds_29 (by decide) (fun c3 => ?_) (fun c3 => ?_)
      · rw [if_pos c3] at hQ
        refine ev_aload_n (ev_o 10 a) dX10_feeds_42 rfl rfl ?_
        refine ev_dup dX10_feeds_43 rfl ?_
        refine gf_10_10 dX10_feeds_44 kw_1863 ?_
        refine ev_iconst (1) dX10_feeds_47 rfl ?_
        refine ev_iadd dX10_feeds_48 ?_
        refine pf_10_10 dX10_feeds_49 kw_1863 ?_
        obtain ⟨S1, hS1⟩ : ∃ z, z = (ev_up S a 10 ((S.1 a 10) + 1)) := ⟨_, rfl⟩
        refine ev_E.goal (pc' := 52) (L' := [some (ev_o 10 a), some (ev_i u1), some (ev_i u2), some (ev_i ((j_ishr u1 u2) &&& 255))]) (K' := []) (S' := S1) ?_ rfl rfl rfl hS1
        replace hQ := hQ S1 hS1
        refine ev_iinc u2 (-8) dX10_feeds_52 rfl (by decide) (ev_hw rfl) ?_
        show ev_E g m_X10_feeds 1 0 55 [some (ev_o 10 a), some (ev_i u1), some (ev_i (u2 + (-8))), some (ev_i ((j_ishr u1 u2) &&& 255))] [] S1 Q
        refine ev_goto 3 dX10_feeds_55 (by decide) ?_
        refine ev_fgm [true, true, true, false] ?_
        exact hQ
      · rw [if_neg c3] at hQ
        refine ev_aload_n (ev_o 10 a) dX10_feeds_32 rfl rfl ?_
        refine gf_10_9 dX10_feeds_33 kw_1862 ?_
        refine ev_aload_n (ev_o 10 a) dX10_feeds_36 rfl rfl ?_
        refine gf_10_10 dX10_feeds_37 kw_1863 ?_
        refine ev_iload_n (((j_ishr u1 u2) &&& 255)) dX10_feeds_40 rfl ?_
        obtain ⟨h1, hQ⟩ := hQ
        refine ev_iastore dX10_feeds_41 h1 ?_
        obtain ⟨S2, hS2⟩ : ∃ z, z = (ev_up S (a + 7) (S.1 a 10).toNatClampNeg ((j_ishr u1 u2) &&& 255)) := ⟨_, rfl⟩
        refine ev_E.goal (pc' := 42) (L' := [some (ev_o 10 a), some (ev_i u1), some (ev_i u2), some (ev_i ((j_ishr u1 u2) &&& 255))]) (K' := []) (S' := S2) ?_ rfl rfl rfl hS2
        replace hQ := hQ S2 hS2
        refine ev_aload_n (ev_o 10 a) dX10_feeds_42 rfl rfl ?_
        refine ev_dup dX10_feeds_43 rfl ?_
        refine gf_10_10 dX10_feeds_44 kw_1863 ?_
        refine ev_ke (j_rk hS2 (Or.inl (by omega))) ?_
        refine ev_iconst (1) dX10_feeds_47 rfl ?_
        refine ev_iadd dX10_feeds_48 ?_
        refine pf_10_10 dX10_feeds_49 kw_1863 ?_
        obtain ⟨S3, hS3⟩ : ∃ z, z = (ev_up S2 a 10 ((S.1 a 10) + 1)) := ⟨_, rfl⟩
        refine ev_E.goal (pc' := 52) (L' := [some (ev_o 10 a), some (ev_i u1), some (ev_i u2), some (ev_i ((j_ishr u1 u2) &&& 255))]) (K' := []) (S' := S3) ?_ rfl rfl rfl hS3
        replace hQ := hQ S3 hS3
        refine ev_iinc u2 (-8) dX10_feeds_52 rfl (by decide) (ev_hw rfl) ?_
        show ev_E g m_X10_feeds 1 0 55 [some (ev_o 10 a), some (ev_i u1), some (ev_i (u2 + (-8))), some (ev_i ((j_ishr u1 u2) &&& 255))] [] S3 Q
        refine ev_goto 3 dX10_feeds_55 (by decide) ?_
        refine ev_fgm [true, true, true, false] ?_
        exact hQ
    · rw [if_pos c2] at hQ
      refine ev_goto 52 dX10_feeds_19 (by decide) ?_
      refine ev_iinc u2 (-8) dX10_feeds_52 rfl (by decide) (ev_hw rfl) ?_
      show ev_E g m_X10_feeds 1 0 55 [some (ev_o 10 a), some (ev_i u1), some (ev_i (u2 + (-8))), some (ev_i ((j_ishr u1 u2) &&& 255))] [] S Q
      refine ev_goto 3 dX10_feeds_55 (by decide) ?_
      refine ev_fgm [true, true, true, false] ?_
      exact hQ
set_option maxHeartbeats 4000000 in
set_option maxRecDepth 100000 in
theorem sg_X10_append_0 {g : ev_G} {S : ev_S} {Q : ev_O → ev_S → Prop} (a : Nat) (x0 : Int32) (x1 : Int32) (x2 : Int32) (x3 : Int32) (x4 : Int32) (hQ : ∀ S1 : ev_S, S1 = (ev_up S a 7 0) → (
    ev_Cv g m_X10_feeds 1 0 [ev_o 10 a, ev_i x0] S1 (fun o S2 => o = .inl none ∧ (
      ev_Cv g m_X10_feeds 1 0 [ev_o 10 a, ev_i x1] S2 (fun o S3 => o = .inl none ∧ (
        ev_Cv g m_X10_feeds 1 0 [ev_o 10 a, ev_i x2] S3 (fun o S4 => o = .inl none ∧ (
          ev_Cv g m_X10_feeds 1 0 [ev_o 10 a, ev_i x3] S4 (fun o S5 => o = .inl none ∧ (
            ev_Cv g m_X10_feeds 1 0 [ev_o 10 a, ev_i x4] S5 (fun o S6 => o = .inl none ∧ (
              if 800 < (S6.1 a 10) then (
                if (S6.1 a 7) = 0 then (
                  ∀ S7 : ev_S, S7 = (ev_up S6 a 7 1) → (
                    ∀ S8 : ev_S, S8 = (ev_up S7 a 10 (S.1 a 10)) → (
                      Q (.inl (some (ev_i 0))) S8)))
                else (
                  ∀ S9 : ev_S, S9 = (ev_up S6 a 10 (S.1 a 10)) → (
                    Q (.inl (some (ev_i 0))) S9)))
              else (
                if (S6.1 a 7) = 0 then (
                  Q (.inl (some (ev_i (S6.1 a 10)))) S6)
                else (
                  ∀ S10 : ev_S, S10 = (ev_up S6 a 10 (S.1 a 10)) → (
                    Q (.inl (some (ev_i 0))) S10))))))))))))))) : ev_Cv g m_X10_append 2 0 [ev_o 10 a, ev_i x0, ev_i x1, ev_i x2, ev_i x3, ev_i x4] S Q := by
  refine ev_enter (by decide) rfl rfl (Nat.le_of_ble_eq_true rfl) ?_
  show ev_E g m_X10_append 2 0 0 [some (ev_o 10 a), some (ev_i x0), some (ev_i x1), some (ev_i x2), some (ev_i x3), some (ev_i x4), none] [] S Q
  refine ev_aload_n (ev_o 10 a) dX10_append_0 rfl rfl ?_
  refine ev_iconst (0) dX10_append_1 rfl ?_
  refine pf_10_7 dX10_append_2 kw_1860 ?_
  obtain ⟨S1, hS1⟩ : ∃ z, z = (ev_up S a 7 0) := ⟨_, rfl⟩
  refine ev_E.goal (pc' := 5) (L' := [some (ev_o 10 a), some (ev_i x0), some (ev_i x1), some (ev_i x2), some (ev_i x3), some (ev_i x4), none]) (K' := []) (S' := S1) ?_ rfl rfl rfl hS1
  replace hQ := hQ S1 hS1
  refine ev_aload_n (ev_o 10 a) dX10_append_5 rfl rfl ?_
  refine gf_10_10 dX10_append_6 kw_1863 ?_
  refine ev_ke (j_rk hS1 (Or.inr (by decide))) ?_
  refine ev_istore dX10_append_9 (Nat.le_of_ble_eq_true rfl) (ev_hw rfl) ?_
  show ev_E g m_X10_append 2 0 11 [some (ev_o 10 a), some (ev_i x0), some (ev_i x1), some (ev_i x2), some (ev_i x3), some (ev_i x4), some (ev_i (S.1 a 10))] [] S1 Q
  refine ev_aload_n (ev_o 10 a) dX10_append_11 rfl rfl ?_
  refine ev_iload_n (x0) dX10_append_12 rfl ?_
  refine ev_cV mv_X10_feeds 1 0 10 [ev_i x0] [] dX10_append_13 kw_1947 rfl (by decide) rfl (by decide) (by decide) (Nat.le_of_ble_eq_true rfl) hQ ?_ rfl
  rintro o S2 ⟨rfl, hQ⟩
  show ev_E g m_X10_append 2 0 16 [some (ev_o 10 a), some (ev_i x0), some (ev_i x1), some (ev_i x2), some (ev_i x3), some (ev_i x4), some (ev_i (S.1 a 10))] [] S2 Q
  refine ev_aload_n (ev_o 10 a) dX10_append_16 rfl rfl ?_
  refine ev_iload_n (x1) dX10_append_17 rfl ?_
  refine ev_cV mv_X10_feeds 1 0 10 [ev_i x1] [] dX10_append_18 kw_1947 rfl (by decide) rfl (by decide) (by decide) (Nat.le_of_ble_eq_true rfl) hQ ?_ rfl
  rintro o S3 ⟨rfl, hQ⟩
  show ev_E g m_X10_append 2 0 21 [some (ev_o 10 a), some (ev_i x0), some (ev_i x1), some (ev_i x2), some (ev_i x3), some (ev_i x4), some (ev_i (S.1 a 10))] [] S3 Q
  refine ev_aload_n (ev_o 10 a) dX10_append_21 rfl rfl ?_
  refine ev_iload_n (x2) dX10_append_22 rfl ?_
  refine ev_cV mv_X10_feeds 1 0 10 [ev_i x2] [] dX10_append_23 kw_1947 rfl (by decide) rfl (by decide) (by decide) (Nat.le_of_ble_eq_true rfl) hQ ?_ rfl
  rintro o S4 ⟨rfl, hQ⟩
  show ev_E g m_X10_append 2 0 26 [some (ev_o 10 a), some (ev_i x0), some (ev_i x1), some (ev_i x2), some (ev_i x3), some (ev_i x4), some (ev_i (S.1 a 10))] [] S4 Q
  refine ev_aload_n (ev_o 10 a) dX10_append_26 rfl rfl ?_
  refine ev_iload (x3) dX10_append_27 rfl ?_
  refine ev_cV mv_X10_feeds 1 0 10 [ev_i x3] [] dX10_append_29 kw_1947 rfl (by decide) rfl (by decide) (by decide) (Nat.le_of_ble_eq_true rfl) hQ ?_ rfl
  rintro o S5 ⟨rfl, hQ⟩
  show ev_E g m_X10_append 2 0 32 [some (ev_o 10 a), some (ev_i x0), some (ev_i x1), some (ev_i x2), some (ev_i x3), some (ev_i x4), some (ev_i (S.1 a 10))] [] S5 Q
  refine ev_aload_n (ev_o 10 a) dX10_append_32 rfl rfl ?_
  refine ev_iload (x4) dX10_append_33 rfl ?_
  refine ev_cV mv_X10_feeds 1 0 10 [ev_i x4] [] dX10_append_35 kw_1947 rfl (by decide) rfl (by decide) (by decide) (Nat.le_of_ble_eq_true rfl) hQ ?_ rfl
  rintro o S6 ⟨rfl, hQ⟩
  show ev_E g m_X10_append 2 0 38 [some (ev_o 10 a), some (ev_i x0), some (ev_i x1), some (ev_i x2), some (ev_i x3), some (ev_i x4), some (ev_i (S.1 a 10))] [] S6 Q
  refine ev_aload_n (ev_o 10 a) dX10_append_38 rfl rfl ?_
  refine ev_aload_n (ev_o 10 a) dX10_append_39 rfl rfl ?_
  refine gf_10_10 dX10_append_40 kw_1863 ?_
  refine ev_sipush (800) dX10_append_43 (by decide) ?_
  refine ev_icmp_gt 53 dX10_append_46 (by decide) (fun c1 => ?_) (fun c1 => ?_)
  · rw [if_pos c1] at hQ
    refine ev_iconst (0) dX10_append_53 rfl ?_
    refine ev_iconst (1) dX10_append_54 rfl ?_
    refine ev_cV mv_X10_right 1 0 10 [ev_i 0, ev_i 1] [] dX10_append_55 kw_1951 rfl (by decide) rfl (by decide) (by decide) (Nat.le_of_ble_eq_true rfl) (Q' := fun o z => ev_After g m_X10_append 2 (0 - 0) 55 [some (ev_o 10 a), some (ev_i x0), some (ev_i x1), some (ev_i x2), some (ev_i x3), some (ev_i x4), some (ev_i (S.1 a 10))] [] z Q o) (sg_X10_right_0 a 0 1 ?_) (fun o z h => h) rfl
    by_cases c2 : (S6.1 a 7) = 0
    · rw [if_pos c2]
      rw [if_pos c2] at hQ
      rw [if_pos (by decide : ((0 : Int32) = 0))]
      intro S7 hS7
      replace hQ := hQ S7 hS7
      rw [if_neg (by decide : ¬ ((1 : Int32) = 0))]
      show ev_E g m_X10_append 2 0 58 [some (ev_o 10 a), some (ev_i x0), some (ev_i x1), some (ev_i x2), some (ev_i x3), some (ev_i x4), some (ev_i (S.1 a 10))] [ev_i 0] S7 Q
      refine ev_if_eq 66 dX10_append_58 (by decide) (fun _ => ?_) (fun h9 => absurd (by decide : ((0 : Int32) = 0)) h9)
      refine ev_aload_n (ev_o 10 a) dX10_append_66 rfl rfl ?_
      refine ev_iload ((S.1 a 10)) dX10_append_67 rfl ?_
      refine pf_10_10 dX10_append_69 kw_1863 ?_
      obtain ⟨S8, hS8⟩ : ∃ z, z = (ev_up S7 a 10 (S.1 a 10)) := ⟨_, rfl⟩
      refine ev_E.goal (pc' := 72) (L' := [some (ev_o 10 a), some (ev_i x0), some (ev_i x1), some (ev_i x2), some (ev_i x3), some (ev_i x4), some (ev_i (S.1 a 10))]) (K' := []) (S' := S8) ?_ rfl rfl rfl hS8
      replace hQ := hQ S8 hS8
      refine ev_iconst (0) dX10_append_72 rfl ?_
      exact ev_ireturn .int dX10_append_73 rfl rfl hQ
    · rw [if_neg c2]
      rw [if_neg c2] at hQ
      show ev_E g m_X10_append 2 0 58 [some (ev_o 10 a), some (ev_i x0), some (ev_i x1), some (ev_i x2), some (ev_i x3), some (ev_i x4), some (ev_i (S.1 a 10))] [ev_i 0] S6 Q
      refine ev_if_eq 66 dX10_append_58 (by decide) (fun _ => ?_) (fun h9 => absurd (by decide : ((0 : Int32) = 0)) h9)
      refine ev_aload_n (ev_o 10 a) dX10_append_66 rfl rfl ?_
      refine ev_iload ((S.1 a 10)) dX10_append_67 rfl ?_
      refine pf_10_10 dX10_append_69 kw_1863 ?_
      obtain ⟨S9, hS9⟩ : ∃ z, z = (ev_up S6 a 10 (S.1 a 10)) := ⟨_, rfl⟩
      refine ev_E.goal (pc' := 72) (L' := [some (ev_o 10 a), some (ev_i x0), some (ev_i x1), some (ev_i x2), some (ev_i x3), some (ev_i x4), some (ev_i (S.1 a 10))]) (K' := []) (S' := S9) ?_ rfl rfl rfl hS9
      replace hQ := hQ S9 hS9
      refine ev_iconst (0) dX10_append_72 rfl ?_
      exact ev_ireturn .int dX10_append_73 rfl rfl hQ
  · rw [if_neg c1] at hQ
    refine ev_iconst (1) dX10_append_49 rfl ?_
    refine ev_goto 54 dX10_append_50 (by decide) ?_
    refine ev_iconst (1) dX10_append_54 rfl ?_
    refine ev_cV mv_X10_right 1 0 10 [ev_i 1, ev_i 1] [] dX10_append_55 kw_1951 rfl (by decide) rfl (by decide) (by decide) (Nat.le_of_ble_eq_true rfl) (Q' := fun o z => ev_After g m_X10_append 2 (0 - 0) 55 [some (ev_o 10 a), some (ev_i x0), some (ev_i x1), some (ev_i x2), some (ev_i x3), some (ev_i x4), some (ev_i (S.1 a 10))] [] z Q o) (sg_X10_right_0 a 1 1 ?_) (fun o z h => h) rfl
    by_cases c3 : (S6.1 a 7) = 0
    · rw [if_pos c3]
      rw [if_pos c3] at hQ
      rw [if_neg (by decide : ¬ ((1 : Int32) = 0))]
      show ev_E g m_X10_append 2 0 58 [some (ev_o 10 a), some (ev_i x0), some (ev_i x1), some (ev_i x2), some (ev_i x3), some (ev_i x4), some (ev_i (S.1 a 10))] [ev_i 1] S6 Q
      refine ev_if_eq 66 dX10_append_58 (by decide) (fun h9 => absurd h9 (by decide : ¬ ((1 : Int32) = 0))) (fun _ => ?_)
      refine ev_aload_n (ev_o 10 a) dX10_append_61 rfl rfl ?_
      refine gf_10_10 dX10_append_62 kw_1863 ?_
      exact ev_ireturn .int dX10_append_65 rfl rfl hQ
    · rw [if_neg c3]
      rw [if_neg c3] at hQ
      show ev_E g m_X10_append 2 0 58 [some (ev_o 10 a), some (ev_i x0), some (ev_i x1), some (ev_i x2), some (ev_i x3), some (ev_i x4), some (ev_i (S.1 a 10))] [ev_i 0] S6 Q
      refine ev_if_eq 66 dX10_append_58 (by decide) (fun _ => ?_) (fun h9 => absurd (by decide : ((0 : Int32) = 0)) h9)
      refine ev_aload_n (ev_o 10 a) dX10_append_66 rfl rfl ?_
      refine ev_iload ((S.1 a 10)) dX10_append_67 rfl ?_
      refine pf_10_10 dX10_append_69 kw_1863 ?_
      obtain ⟨S10, hS10⟩ : ∃ z, z = (ev_up S6 a 10 (S.1 a 10)) := ⟨_, rfl⟩
      refine ev_E.goal (pc' := 72) (L' := [some (ev_o 10 a), some (ev_i x0), some (ev_i x1), some (ev_i x2), some (ev_i x3), some (ev_i x4), some (ev_i (S.1 a 10))]) (K' := []) (S' := S10) ?_ rfl rfl rfl hS10
      replace hQ := hQ S10 hS10
      refine ev_iconst (0) dX10_append_72 rfl ?_
      exact ev_ireturn .int dX10_append_73 rfl rfl hQ
set_option maxHeartbeats 4000000 in
set_option maxRecDepth 100000 in
theorem sg_X10_truncate_0 {g : ev_G} {S : ev_S} {Q : ev_O → ev_S → Prop} (a : Nat) (x0 : Int32) (hQ : ∀ S1 : ev_S, S1 = (ev_up S a 7 0) → (
    if (t_X10_in x0 0 (S.1 a 10)) = true then (
      ∀ S2 : ev_S, S2 = (ev_up S1 a 10 x0) → (
        Q (.inl (some (ev_i ((S.1 a 10) - x0)))) S2))
    else (
      ∀ S3 : ev_S, S3 = (ev_up S1 a 7 1) → (
        Q (.inl (some (ev_i 0))) S3)))) : ev_Cv g m_X10_truncate 2 0 [ev_o 10 a, ev_i x0] S Q := by
  refine ev_enter (by decide) rfl rfl (Nat.le_of_ble_eq_true rfl) ?_
  show ev_E g m_X10_truncate 2 0 0 [some (ev_o 10 a), some (ev_i x0), none] [] S Q
  refine ev_aload_n (ev_o 10 a) dX10_truncate_0 rfl rfl ?_
  refine ev_iconst (0) dX10_truncate_1 rfl ?_
  refine pf_10_7 dX10_truncate_2 kw_1860 ?_
  obtain ⟨S1, hS1⟩ : ∃ z, z = (ev_up S a 7 0) := ⟨_, rfl⟩
  refine ev_E.goal (pc' := 5) (L' := [some (ev_o 10 a), some (ev_i x0), none]) (K' := []) (S' := S1) ?_ rfl rfl rfl hS1
  replace hQ := hQ S1 hS1
  refine ev_aload_n (ev_o 10 a) dX10_truncate_5 rfl rfl ?_
  refine ev_iload_n (x0) dX10_truncate_6 rfl ?_
  refine ev_iconst (0) dX10_truncate_7 rfl ?_
  refine ev_aload_n (ev_o 10 a) dX10_truncate_8 rfl rfl ?_
  refine gf_10_10 dX10_truncate_9 kw_1863 ?_
  refine ev_ke (j_rk hS1 (Or.inr (by decide))) ?_
  refine ev_fS ms_X10_in 1 [ev_i x0, ev_i 0, ev_i (S.1 a 10)] [ev_o 10 a] dX10_truncate_12 kw_1781 rfl (by decide) (Nat.le_of_ble_eq_true rfl) (sp_X10_in x0 0 (S.1 a 10)) ?_ rfl
  by_cases c1 : (t_X10_in x0 0 (S.1 a 10)) = true
  · rw [if_pos c1]
    rw [if_pos c1] at hQ
    refine ev_iconst (1) dX10_truncate_15 rfl ?_
    refine ev_cV mv_X10_right 1 0 10 [ev_i 1, ev_i 1] [] dX10_truncate_16 kw_1951 rfl (by decide) rfl (by decide) (by decide) (Nat.le_of_ble_eq_true rfl) (Q' := fun o z => ev_After g m_X10_truncate 2 (0 - 0) 16 [some (ev_o 10 a), some (ev_i x0), none] [] z Q o) (sg_X10_right_0 a 1 1 ?_) (fun o z h => h) rfl
    rw [if_pos (by rw [j_rs hS1]; decide : ((S1.1 a 7) = 0))]
    rw [if_neg (by decide : ¬ ((1 : Int32) = 0))]
    show ev_E g m_X10_truncate 2 0 19 [some (ev_o 10 a), some (ev_i x0), none] [ev_i 1] S1 Q
    refine ev_if_ne 24 dX10_truncate_19 (by decide) (fun _ => ?_) (fun h9 => absurd h9 (by decide : ¬ ((1 : Int32) = 0)))
    refine ev_aload_n (ev_o 10 a) dX10_truncate_24 rfl rfl ?_
    refine gf_10_10 dX10_truncate_25 kw_1863 ?_
    refine ev_ke (j_rk hS1 (Or.inr (by decide))) ?_
    refine ev_iload_n (x0) dX10_truncate_28 rfl ?_
    refine ev_isub dX10_truncate_29 ?_
    refine ev_istore_n dX10_truncate_30 (Nat.le_of_ble_eq_true rfl) (ev_hw rfl) ?_
    show ev_E g m_X10_truncate 2 0 31 [some (ev_o 10 a), some (ev_i x0), some (ev_i ((S.1 a 10) - x0))] [] S1 Q
    refine ev_aload_n (ev_o 10 a) dX10_truncate_31 rfl rfl ?_
    refine ev_iload_n (x0) dX10_truncate_32 rfl ?_
    refine pf_10_10 dX10_truncate_33 kw_1863 ?_
    obtain ⟨S2, hS2⟩ : ∃ z, z = (ev_up S1 a 10 x0) := ⟨_, rfl⟩
    refine ev_E.goal (pc' := 36) (L' := [some (ev_o 10 a), some (ev_i x0), some (ev_i ((S.1 a 10) - x0))]) (K' := []) (S' := S2) ?_ rfl rfl rfl hS2
    replace hQ := hQ S2 hS2
    refine ev_iload_n (((S.1 a 10) - x0)) dX10_truncate_36 rfl ?_
    exact ev_ireturn .int dX10_truncate_37 rfl rfl hQ
  · rw [if_neg c1]
    rw [if_neg c1] at hQ
    refine ev_iconst (1) dX10_truncate_15 rfl ?_
    refine ev_cV mv_X10_right 1 0 10 [ev_i 0, ev_i 1] [] dX10_truncate_16 kw_1951 rfl (by decide) rfl (by decide) (by decide) (Nat.le_of_ble_eq_true rfl) (Q' := fun o z => ev_After g m_X10_truncate 2 (0 - 0) 16 [some (ev_o 10 a), some (ev_i x0), none] [] z Q o) (sg_X10_right_0 a 0 1 ?_) (fun o z h => h) rfl
    rw [if_pos (by rw [j_rs hS1]; decide : ((S1.1 a 7) = 0))]
    rw [if_pos (by decide : ((0 : Int32) = 0))]
    intro S3 hS3
    replace hQ := hQ S3 hS3
    rw [if_neg (by decide : ¬ ((1 : Int32) = 0))]
    show ev_E g m_X10_truncate 2 0 19 [some (ev_o 10 a), some (ev_i x0), none] [ev_i 0] S3 Q
    refine ev_if_ne 24 dX10_truncate_19 (by decide) (fun h9 => absurd (by decide : ((0 : Int32) = 0)) h9) (fun _ => ?_)
    refine ev_iconst (0) dX10_truncate_22 rfl ?_
    exact ev_ireturn .int dX10_truncate_23 rfl rfl hQ
set_option maxHeartbeats 4000000 in
set_option maxRecDepth 100000 in
theorem sg_X10_errorCode_0 {g : ev_G} {S : ev_S} {Q : ev_O → ev_S → Prop} (a : Nat) (hQ : ∀ S1 : ev_S, S1 = (ev_up S a 7 0) → (
    Q (.inl (some (ev_i (S.1 a 11)))) S1)) : ev_Cv g m_X10_errorCode 1 0 [ev_o 10 a] S Q := by
  refine ev_enter (by decide) rfl rfl (Nat.le_of_ble_eq_true rfl) ?_
  show ev_E g m_X10_errorCode 1 0 0 [some (ev_o 10 a)] [] S Q
  refine ev_aload_n (ev_o 10 a) dX10_errorCode_0 rfl rfl ?_
  refine ev_iconst (0) dX10_errorCode_1 rfl ?_
  refine pf_10_7 dX10_errorCode_2 kw_1860 ?_
  obtain ⟨S1, hS1⟩ : ∃ z, z = (ev_up S a 7 0) := ⟨_, rfl⟩
  refine ev_E.goal (pc' := 5) (L' := [some (ev_o 10 a)]) (K' := []) (S' := S1) ?_ rfl rfl rfl hS1
  replace hQ := hQ S1 hS1
  refine ev_aload_n (ev_o 10 a) dX10_errorCode_5 rfl rfl ?_
  refine gf_10_11 dX10_errorCode_6 kw_1864 ?_
  refine ev_ke (j_rk hS1 (Or.inr (by decide))) ?_
  exact ev_ireturn .int dX10_errorCode_9 rfl rfl hQ
set_option maxHeartbeats 4000000 in
set_option maxRecDepth 100000 in
theorem sp_X10_errorCode {g : ev_G} {S : ev_S} (a : Nat)  : ev_Fn g m_X10_errorCode 1 [ev_o 10 a] S (some (ev_i (S.1 a 11))) (ev_up S a 7 0) := by
  intro Q hQ
  refine sg_X10_errorCode_0 a ?_
  intro S1 hS1
  subst hS1
  exact hQ
set_option maxHeartbeats 4000000 in
set_option maxRecDepth 100000 in
theorem sg_X10_errorPosition_0 {g : ev_G} {S : ev_S} {Q : ev_O → ev_S → Prop} (a : Nat) (hQ : ∀ S1 : ev_S, S1 = (ev_up S a 7 0) → (
    Q (.inl (some (ev_i (S.1 a 12)))) S1)) : ev_Cv g m_X10_errorPosition 1 0 [ev_o 10 a] S Q := by
  refine ev_enter (by decide) rfl rfl (Nat.le_of_ble_eq_true rfl) ?_
  show ev_E g m_X10_errorPosition 1 0 0 [some (ev_o 10 a)] [] S Q
  refine ev_aload_n (ev_o 10 a) dX10_errorPosition_0 rfl rfl ?_
  refine ev_iconst (0) dX10_errorPosition_1 rfl ?_
  refine pf_10_7 dX10_errorPosition_2 kw_1860 ?_
  obtain ⟨S1, hS1⟩ : ∃ z, z = (ev_up S a 7 0) := ⟨_, rfl⟩
  refine ev_E.goal (pc' := 5) (L' := [some (ev_o 10 a)]) (K' := []) (S' := S1) ?_ rfl rfl rfl hS1
  replace hQ := hQ S1 hS1
  refine ev_aload_n (ev_o 10 a) dX10_errorPosition_5 rfl rfl ?_
  refine gf_10_12 dX10_errorPosition_6 kw_1865 ?_
  refine ev_ke (j_rk hS1 (Or.inr (by decide))) ?_
  exact ev_ireturn .int dX10_errorPosition_9 rfl rfl hQ
set_option maxHeartbeats 4000000 in
set_option maxRecDepth 100000 in
theorem sp_X10_errorPosition {g : ev_G} {S : ev_S} (a : Nat)  : ev_Fn g m_X10_errorPosition 1 [ev_o 10 a] S (some (ev_i (S.1 a 12))) (ev_up S a 7 0) := by
  intro Q hQ
  refine sg_X10_errorPosition_0 a ?_
  intro S1 hS1
  subst hS1
  exact hQ
set_option maxHeartbeats 4000000 in
set_option maxRecDepth 100000 in
theorem sg_X10_isWhole_0 {g : ev_G} {S : ev_S} {Q : ev_O → ev_S → Prop} (a : Nat) (hQ : ∀ S1 : ev_S, S1 = (ev_up S a 10 0) → (
    ∀ S2 : ev_S, S2 = (ev_up S1 a 11 (S.1 a 17)) → (
      ∀ S3 : ev_S, S3 = (ev_up S2 a 12 (S.1 a 18)) → (
        if (S.1 a 17) = 0 then (
          Q (.inl (some (ev_i 1))) S3)
        else (
          Q (.inl (some (ev_i 0))) S3))))) : ev_Cv g m_X10_isWhole 1 0 [ev_o 10 a] S Q := by
  refine ev_enter (by decide) rfl rfl (Nat.le_of_ble_eq_true rfl) ?_
  show ev_E g m_X10_isWhole 1 0 0 [some (ev_o 10 a)] [] S Q
  refine ev_aload_n (ev_o 10 a) dX10_isWhole_0 rfl rfl ?_
  refine ev_iconst (0) dX10_isWhole_1 rfl ?_
  refine pf_10_10 dX10_isWhole_2 kw_1863 ?_
  obtain ⟨S1, hS1⟩ : ∃ z, z = (ev_up S a 10 0) := ⟨_, rfl⟩
  refine ev_E.goal (pc' := 5) (L' := [some (ev_o 10 a)]) (K' := []) (S' := S1) ?_ rfl rfl rfl hS1
  replace hQ := hQ S1 hS1
  refine ev_aload_n (ev_o 10 a) dX10_isWhole_5 rfl rfl ?_
  refine ev_aload_n (ev_o 10 a) dX10_isWhole_6 rfl rfl ?_
  refine gf_10_17 dX10_isWhole_7 kw_1870 ?_
  refine ev_ke (j_rk hS1 (Or.inr (by decide))) ?_
  refine pf_10_11 dX10_isWhole_10 kw_1864 ?_
  obtain ⟨S2, hS2⟩ : ∃ z, z = (ev_up S1 a 11 (S.1 a 17)) := ⟨_, rfl⟩
  refine ev_E.goal (pc' := 13) (L' := [some (ev_o 10 a)]) (K' := []) (S' := S2) ?_ rfl rfl rfl hS2
  replace hQ := hQ S2 hS2
  refine ev_aload_n (ev_o 10 a) dX10_isWhole_13 rfl rfl ?_
  refine ev_aload_n (ev_o 10 a) dX10_isWhole_14 rfl rfl ?_
  refine gf_10_18 dX10_isWhole_15 kw_1871 ?_
  refine ev_ke ((j_rk hS2 (Or.inr (by decide))).trans (j_rk hS1 (Or.inr (by decide)))) ?_
  refine pf_10_12 dX10_isWhole_18 kw_1865 ?_
  obtain ⟨S3, hS3⟩ : ∃ z, z = (ev_up S2 a 12 (S.1 a 18)) := ⟨_, rfl⟩
  refine ev_E.goal (pc' := 21) (L' := [some (ev_o 10 a)]) (K' := []) (S' := S3) ?_ rfl rfl rfl hS3
  replace hQ := hQ S3 hS3
  refine ev_aload_n (ev_o 10 a) dX10_isWhole_21 rfl rfl ?_
  refine gf_10_17 dX10_isWhole_22 kw_1870 ?_
  refine ev_ke (((j_rk hS3 (Or.inr (by decide))).trans (j_rk hS2 (Or.inr (by decide)))).trans (j_rk hS1 (Or.inr (by decide)))) ?_
  refine ev_if_ne 32 dX10_isWhole_25 (by decide) (fun c1 => ?_) (fun c1 => ?_)
  · rw [if_neg c1] at hQ
    refine ev_iconst (0) dX10_isWhole_32 rfl ?_
    exact ev_ireturn .boolean dX10_isWhole_33 rfl rfl hQ
  · rw [if_pos c1] at hQ
    refine ev_iconst (1) dX10_isWhole_28 rfl ?_
    refine ev_goto 33 dX10_isWhole_29 (by decide) ?_
    exact ev_ireturn .boolean dX10_isWhole_33 rfl rfl hQ
set_option maxHeartbeats 4000000 in
set_option maxRecDepth 100000 in
theorem sg_X10_load_0 {g : ev_G} {S : ev_S} {Q : ev_O → ev_S → Prop} (a : Nat) (hQ : ∀ S1 : ev_S, S1 = (ev_up S a 7 0) → (
    ev_E g m_X10_load 8 0 7 [some (ev_o 10 a), some (ev_i 0)] [] S1 Q)) : ev_Cv g m_X10_load 8 0 [ev_o 10 a] S Q := by
  refine ev_enter (by decide) rfl rfl (Nat.le_of_ble_eq_true rfl) ?_
  show ev_E g m_X10_load 8 0 0 [some (ev_o 10 a), none] [] S Q
  refine ev_aload_n (ev_o 10 a) dX10_load_0 rfl rfl ?_
  refine ev_iconst (0) dX10_load_1 rfl ?_
  refine pf_10_7 dX10_load_2 kw_1860 ?_
  obtain ⟨S1, hS1⟩ : ∃ z, z = (ev_up S a 7 0) := ⟨_, rfl⟩
  refine ev_E.goal (pc' := 5) (L' := [some (ev_o 10 a), none]) (K' := []) (S' := S1) ?_ rfl rfl rfl hS1
  replace hQ := hQ S1 hS1
  refine ev_iconst (0) dX10_load_5 rfl ?_
  refine ev_istore_n dX10_load_6 (Nat.le_of_ble_eq_true rfl) (ev_hw rfl) ?_
  show ev_E g m_X10_load 8 0 7 [some (ev_o 10 a), some (ev_i 0)] [] S1 Q
  exact hQ
set_option maxHeartbeats 4000000 in
set_option maxRecDepth 100000 in
theorem sg_X10_load_7 {g : ev_G} {S : ev_S} {Q : ev_O → ev_S → Prop} (a : Nat) (u1 : Int32) (hQ : if 2091 ≤ u1 then (
    ev_Cv g m_X10_begins 2 0 [ev_o 10 a] S (fun o S1 => o = .inl none ∧ (
      ev_Cv g m_X10_starts 3 0 [ev_o 10 a] S1 (fun o S2 => o = .inl none ∧ (
        ev_Cv g m_X10_readsSetup 7 0 [ev_o 10 a] S2 (fun o S3 => o = .inl none ∧ (
          ev_Cv g m_X10_isWhole 1 0 [ev_o 10 a] S3 (fun o S4 => ∃ v4_ : Bool, o = .inl (some (ev_i (if v4_ = true then 1 else 0))) ∧ (
            if v4_ = true then (
              ∀ S5 : ev_S, S5 = (ev_up S4 a 6 0) → (
                ∀ S6 : ev_S, S6 = (ev_up S5 (a + 6) 0 0) → (
                  ∀ S7 : ev_S, S7 = (ev_up S6 (a + 6) 1 0) → (
                    Q (.inl (some (ev_i 0))) S7))))
            else (
              ev_E g m_X10_load 8 0 53 [some (ev_o 10 a), some (ev_i 0)] [] S4 Q))))))))))
  else (
    (vp_in u1 2091) ∧ (
      ∀ S8 : ev_S, S8 = (ev_up S (a + 3) u1.toNatClampNeg (S.1 (a + 1) u1.toNatClampNeg)) → (
        ev_E g m_X10_load 8 0 7 [some (ev_o 10 a), some (ev_i (u1 + 1))] [] S8 Q)))) : ev_E g m_X10_load 8 0 7 [some (ev_o 10 a), some (ev_i u1)] [] S Q := by
  refine ev_iload_n (u1) dX10_load_7 rfl ?_
  refine ev_sipush (2091) dX10_load_8 (by decide) ?_
  refine ev_icmp_ge 32 dX10_load_11 (by decide) (fun c1 => ?_) (fun c1 => ?_)
  · rw [if_pos c1] at hQ
    refine ev_aload_n (ev_o 10 a) dX10_load_32 rfl rfl ?_
    refine ev_cV mv_X10_begins 2 0 10 [] [] dX10_load_33 kw_1761 rfl (by decide) rfl (by decide) (by decide) (Nat.le_of_ble_eq_true rfl) hQ ?_ rfl
    rintro o S1 ⟨rfl, hQ⟩
    show ev_E g m_X10_load 8 0 36 [some (ev_o 10 a), some (ev_i u1)] [] S1 Q
    refine ev_aload_n (ev_o 10 a) dX10_load_36 rfl rfl ?_
    refine ev_cV mv_X10_starts 3 0 10 [] [] dX10_load_37 kw_1769 rfl (by decide) rfl (by decide) (by decide) (Nat.le_of_ble_eq_true rfl) hQ ?_ rfl
    rintro o S2 ⟨rfl, hQ⟩
    show ev_E g m_X10_load 8 0 40 [some (ev_o 10 a), some (ev_i u1)] [] S2 Q
    refine ev_aload_n (ev_o 10 a) dX10_load_40 rfl rfl ?_
    refine ev_cV mv_X10_readsSetup 7 0 10 [] [] dX10_load_41 kw_1785 rfl (by decide) rfl (by decide) (by decide) (Nat.le_of_ble_eq_true rfl) hQ ?_ rfl
    rintro o S3 ⟨rfl, hQ⟩
    show ev_E g m_X10_load 8 0 44 [some (ev_o 10 a), some (ev_i u1)] [] S3 Q
    refine ev_aload_n (ev_o 10 a) dX10_load_44 rfl rfl ?_
    refine ev_cV mv_X10_isWhole 1 0 10 [] [] dX10_load_45 kw_1971 rfl (by decide) rfl (by decide) (by decide) (Nat.le_of_ble_eq_true rfl) hQ ?_ rfl
    rintro o S4 ⟨v4_, rfl, hQ⟩
    show ev_E g m_X10_load 8 0 48 [some (ev_o 10 a), some (ev_i u1)] [ev_i (if v4_ = true then 1 else 0)] S4 Q
    by_cases c2 : v4_ = true
    · rw [if_pos c2]
      rw [if_pos c2] at hQ
      refine ev_if_ne 83 dX10_load_48 (by decide) (fun _ => ?_) (fun h9 => absurd h9 (by decide : ¬ ((1 : Int32) = 0)))
      refine ev_aload_n (ev_o 10 a) dX10_load_83 rfl rfl ?_
      refine ev_iconst (0) dX10_load_84 rfl ?_
      refine pf_10_6 dX10_load_85 kw_1859 ?_
      obtain ⟨S5, hS5⟩ : ∃ z, z = (ev_up S4 a 6 0) := ⟨_, rfl⟩
      refine ev_E.goal (pc' := 88) (L' := [some (ev_o 10 a), some (ev_i u1)]) (K' := []) (S' := S5) ?_ rfl rfl rfl hS5
      replace hQ := hQ S5 hS5
      refine ev_aload_n (ev_o 10 a) dX10_load_88 rfl rfl ?_
      refine gf_10_5 dX10_load_89 kw_1858 ?_
      refine ev_iconst (0) dX10_load_92 rfl ?_
      refine ev_iconst (0) dX10_load_93 rfl ?_
      refine ev_bastore dX10_load_94 (j_vin (by decide)) rfl ?_
      obtain ⟨S6, hS6⟩ : ∃ z, z = (ev_up S5 (a + 6) 0 0) := ⟨_, rfl⟩
      refine ev_E.goal (pc' := 95) (L' := [some (ev_o 10 a), some (ev_i u1)]) (K' := []) (S' := S6) ?_ rfl rfl rfl hS6
      replace hQ := hQ S6 hS6
      refine ev_aload_n (ev_o 10 a) dX10_load_95 rfl rfl ?_
      refine gf_10_5 dX10_load_96 kw_1858 ?_
      refine ev_iconst (1) dX10_load_99 rfl ?_
      refine ev_iconst (0) dX10_load_100 rfl ?_
      refine ev_bastore dX10_load_101 (j_vin (by decide)) rfl ?_
      obtain ⟨S7, hS7⟩ : ∃ z, z = (ev_up S6 (a + 6) 1 0) := ⟨_, rfl⟩
      refine ev_E.goal (pc' := 102) (L' := [some (ev_o 10 a), some (ev_i u1)]) (K' := []) (S' := S7) ?_ rfl rfl rfl hS7
      replace hQ := hQ S7 hS7
      refine ev_iconst (0) dX10_load_102 rfl ?_
      exact ev_ireturn .int dX10_load_103 rfl rfl hQ
    · rw [if_neg c2]
      rw [if_neg c2] at hQ
      refine ev_if_ne 83 dX10_load_48 (by decide) (fun h9 => absurd (by decide : ((0 : Int32) = 0)) h9) (fun _ => ?_)
      refine ev_iconst (0) dX10_load_51 rfl ?_
      refine ev_istore_n dX10_load_52 (Nat.le_of_ble_eq_true rfl) (ev_hw rfl) ?_
      show ev_E g m_X10_load 8 0 53 [some (ev_o 10 a), some (ev_i 0)] [] S4 Q
      exact hQ
  · rw [if_neg c1] at hQ
    refine ev_aload_n (ev_o 10 a) dX10_load_14 rfl rfl ?_
    refine gf_10_2 dX10_load_15 kw_1855 ?_
    refine ev_iload_n (u1) dX10_load_18 rfl ?_
    refine ev_aload_n (ev_o 10 a) dX10_load_19 rfl rfl ?_
    refine gf_10_0 dX10_load_20 kw_1853 ?_
    refine ev_iload_n (u1) dX10_load_23 rfl ?_
    obtain ⟨h1, hQ⟩ := hQ
    refine ev_iaload dX10_load_24 h1 ?_
    refine ev_iastore dX10_load_25 h1 ?_
    obtain ⟨S8, hS8⟩ : ∃ z, z = (ev_up S (a + 3) u1.toNatClampNeg (S.1 (a + 1) u1.toNatClampNeg)) := ⟨_, rfl⟩
    refine ev_E.goal (pc' := 26) (L' := [some (ev_o 10 a), some (ev_i u1)]) (K' := []) (S' := S8) ?_ rfl rfl rfl hS8
    replace hQ := hQ S8 hS8
    refine ev_iinc u1 (1) dX10_load_26 rfl (by decide) (ev_hw rfl) ?_
    show ev_E g m_X10_load 8 0 29 [some (ev_o 10 a), some (ev_i (u1 + 1))] [] S8 Q
    refine ev_goto 7 dX10_load_29 (by decide) ?_
    exact hQ
set_option maxHeartbeats 4000000 in
set_option maxRecDepth 100000 in
theorem sg_X10_load_53 {g : ev_G} {S : ev_S} {Q : ev_O → ev_S → Prop} (a : Nat) (u1 : Int32) (hQ : if 2091 ≤ u1 then (
    Q (.inl (some (ev_i (S.1 a 11)))) S)
  else (
    (vp_in u1 2091) ∧ (
      ∀ S1 : ev_S, S1 = (ev_up S (a + 1) u1.toNatClampNeg (S.1 (a + 3) u1.toNatClampNeg)) → (
        ev_E g m_X10_load 8 0 53 [some (ev_o 10 a), some (ev_i (u1 + 1))] [] S1 Q)))) : ev_E g m_X10_load 8 0 53 [some (ev_o 10 a), some (ev_i u1)] [] S Q := by
  refine ev_iload_n (u1) dX10_load_53 rfl ?_
  refine ev_sipush (2091) dX10_load_54 (by decide) ?_
  refine ev_icmp_ge 78 dX10_load_57 (by decide) (fun c1 => ?_) (fun c1 => ?_)
  · rw [if_pos c1] at hQ
    refine ev_aload_n (ev_o 10 a) dX10_load_78 rfl rfl ?_
    refine gf_10_11 dX10_load_79 kw_1864 ?_
    exact ev_ireturn .int dX10_load_82 rfl rfl hQ
  · rw [if_neg c1] at hQ
    refine ev_aload_n (ev_o 10 a) dX10_load_60 rfl rfl ?_
    refine gf_10_0 dX10_load_61 kw_1853 ?_
    refine ev_iload_n (u1) dX10_load_64 rfl ?_
    refine ev_aload_n (ev_o 10 a) dX10_load_65 rfl rfl ?_
    refine gf_10_2 dX10_load_66 kw_1855 ?_
    refine ev_iload_n (u1) dX10_load_69 rfl ?_
    obtain ⟨h1, hQ⟩ := hQ
    refine ev_iaload dX10_load_70 h1 ?_
    refine ev_iastore dX10_load_71 h1 ?_
    obtain ⟨S1, hS1⟩ : ∃ z, z = (ev_up S (a + 1) u1.toNatClampNeg (S.1 (a + 3) u1.toNatClampNeg)) := ⟨_, rfl⟩
    refine ev_E.goal (pc' := 72) (L' := [some (ev_o 10 a), some (ev_i u1)]) (K' := []) (S' := S1) ?_ rfl rfl rfl hS1
    replace hQ := hQ S1 hS1
    refine ev_iinc u1 (1) dX10_load_72 rfl (by decide) (ev_hw rfl) ?_
    show ev_E g m_X10_load 8 0 75 [some (ev_o 10 a), some (ev_i (u1 + 1))] [] S1 Q
    refine ev_goto 53 dX10_load_75 (by decide) ?_
    exact hQ
set_option maxHeartbeats 4000000 in
set_option maxRecDepth 100000 in
theorem sg_X10_commandHere_0 {g : ev_G} {S : ev_S} {Q : ev_O → ev_S → Prop} (a : Nat) (hQ : ev_Cv g m_X10_isWord 5 0 [ev_o 10 a, ev_x 1 32] S (fun o S1 => ∃ v1_ : Bool, o = .inl (some (ev_i (if v1_ = true then 1 else 0))) ∧ (
    if v1_ = true then (
      Q (.inl (some (ev_i 0))) S1)
    else (
      ev_Cv g m_X10_isWord 5 0 [ev_o 10 a, ev_x 1 33] S1 (fun o S2 => ∃ v2_ : Bool, o = .inl (some (ev_i (if v2_ = true then 1 else 0))) ∧ (
        if v2_ = true then (
          Q (.inl (some (ev_i 1))) S2)
        else (
          ev_Cv g m_X10_isWord 5 0 [ev_o 10 a, ev_x 1 34] S2 (fun o S3 => ∃ v3_ : Bool, o = .inl (some (ev_i (if v3_ = true then 1 else 0))) ∧ (
            if v3_ = true then (
              Q (.inl (some (ev_i 2))) S3)
            else (
              ev_Cv g m_X10_isWord 5 0 [ev_o 10 a, ev_x 1 35] S3 (fun o S4 => ∃ v4_ : Bool, o = .inl (some (ev_i (if v4_ = true then 1 else 0))) ∧ (
                if v4_ = true then (
                  Q (.inl (some (ev_i 3))) S4)
                else (
                  ev_Cv g m_X10_isWord 5 0 [ev_o 10 a, ev_x 1 36] S4 (fun o S5 => ∃ v5_ : Bool, o = .inl (some (ev_i (if v5_ = true then 1 else 0))) ∧ (
                    if v5_ = true then (
                      Q (.inl (some (ev_i 4))) S5)
                    else (
                      ev_Cv g m_X10_isWord 5 0 [ev_o 10 a, ev_x 1 31] S5 (fun o S6 => ∃ v6_ : Bool, o = .inl (some (ev_i (if v6_ = true then 1 else 0))) ∧ (
                        if v6_ = true then (
                          Q (.inl (some (ev_i 5))) S6)
                        else (
                          ev_Cv g m_X10_isWord 5 0 [ev_o 10 a, ev_x 1 37] S6 (fun o S7 => ∃ v7_ : Bool, o = .inl (some (ev_i (if v7_ = true then 1 else 0))) ∧ (
                            if v7_ = true then (
                              Q (.inl (some (ev_i 6))) S7)
                            else (
                              Q (.inl (some (ev_i (-1)))) S7)))))))))))))))))))))) : ev_Cv g m_X10_commandHere 6 0 [ev_o 10 a] S Q := by
  refine ev_enter (by decide) rfl rfl (Nat.le_of_ble_eq_true rfl) ?_
  show ev_E g m_X10_commandHere 6 0 0 [some (ev_o 10 a)] [] S Q
  refine ev_aload_n (ev_o 10 a) dX10_commandHere_0 rfl rfl ?_
  refine ev_ldcw "move" 32 dX10_commandHere_1 (List.mem_of_getElem? (i := 32) rfl) (by decide) ?_
  refine ev_cV mv_X10_isWord 5 0 10 [ev_x 1 32] [] dX10_commandHere_4 kw_1790 rfl (by decide) rfl (by decide) (by decide) (Nat.le_of_ble_eq_true rfl) hQ ?_ rfl
  rintro o S1 ⟨v1_, rfl, hQ⟩
  show ev_E g m_X10_commandHere 6 0 7 [some (ev_o 10 a)] [ev_i (if v1_ = true then 1 else 0)] S1 Q
  by_cases c1 : v1_ = true
  · rw [if_pos c1]
    rw [if_pos c1] at hQ
    refine ev_if_eq 12 dX10_commandHere_7 (by decide) (fun h9 => absurd h9 (by decide : ¬ ((1 : Int32) = 0))) (fun _ => ?_)
    refine ev_iconst (0) dX10_commandHere_10 rfl ?_
    exact ev_ireturn .int dX10_commandHere_11 rfl rfl hQ
  · rw [if_neg c1]
    rw [if_neg c1] at hQ
    refine ev_if_eq 12 dX10_commandHere_7 (by decide) (fun _ => ?_) (fun h9 => absurd (by decide : ((0 : Int32) = 0)) h9)
    refine ev_aload_n (ev_o 10 a) dX10_commandHere_12 rfl rfl ?_
    refine ev_ldcw "promise" 33 dX10_commandHere_13 (List.mem_of_getElem? (i := 33) rfl) (by decide) ?_
    refine ev_cV mv_X10_isWord 5 0 10 [ev_x 1 33] [] dX10_commandHere_16 kw_1790 rfl (by decide) rfl (by decide) (by decide) (Nat.le_of_ble_eq_true rfl) hQ ?_ rfl
    rintro o S2 ⟨v2_, rfl, hQ⟩
    show ev_E g m_X10_commandHere 6 0 19 [some (ev_o 10 a)] [ev_i (if v2_ = true then 1 else 0)] S2 Q
    by_cases c2 : v2_ = true
    · rw [if_pos c2]
      rw [if_pos c2] at hQ
      refine ev_if_eq 24 dX10_commandHere_19 (by decide) (fun h9 => absurd h9 (by decide : ¬ ((1 : Int32) = 0))) (fun _ => ?_)
      refine ev_iconst (1) dX10_commandHere_22 rfl ?_
      exact ev_ireturn .int dX10_commandHere_23 rfl rfl hQ
    · rw [if_neg c2]
      rw [if_neg c2] at hQ
      refine ev_if_eq 24 dX10_commandHere_19 (by decide) (fun _ => ?_) (fun h9 => absurd (by decide : ((0 : Int32) = 0)) h9)
      refine ev_aload_n (ev_o 10 a) dX10_commandHere_24 rfl rfl ?_
      refine ev_ldcw "resend" 34 dX10_commandHere_25 (List.mem_of_getElem? (i := 34) rfl) (by decide) ?_
      refine ev_cV mv_X10_isWord 5 0 10 [ev_x 1 34] [] dX10_commandHere_28 kw_1790 rfl (by decide) rfl (by decide) (by decide) (Nat.le_of_ble_eq_true rfl) hQ ?_ rfl
      rintro o S3 ⟨v3_, rfl, hQ⟩
      show ev_E g m_X10_commandHere 6 0 31 [some (ev_o 10 a)] [ev_i (if v3_ = true then 1 else 0)] S3 Q
      by_cases c3 : v3_ = true
      · rw [if_pos c3]
        rw [if_pos c3] at hQ
        refine ev_if_eq 36 dX10_commandHere_31 (by decide) (fun h9 => absurd h9 (by decide : ¬ ((1 : Int32) = 0))) (fun _ => ?_)
        refine ev_iconst (2) dX10_commandHere_34 rfl ?_
        exact ev_ireturn .int dX10_commandHere_35 rfl rfl hQ
      · rw [if_neg c3]
        rw [if_neg c3] at hQ
        refine ev_if_eq 36 dX10_commandHere_31 (by decide) (fun _ => ?_) (fun h9 => absurd (by decide : ((0 : Int32) = 0)) h9)
        refine ev_aload_n (ev_o 10 a) dX10_commandHere_36 rfl rfl ?_
        refine ev_ldcw "days" 35 dX10_commandHere_37 (List.mem_of_getElem? (i := 35) rfl) (by decide) ?_
        refine ev_cV mv_X10_isWord 5 0 10 [ev_x 1 35] [] dX10_commandHere_40 kw_1790 rfl (by decide) rfl (by decide) (by decide) (Nat.le_of_ble_eq_true rfl) hQ ?_ rfl
        rintro o S4 ⟨v4_, rfl, hQ⟩
        show ev_E g m_X10_commandHere 6 0 43 [some (ev_o 10 a)] [ev_i (if v4_ = true then 1 else 0)] S4 Q
        by_cases c4 : v4_ = true
        · rw [if_pos c4]
          rw [if_pos c4] at hQ
          refine ev_if_eq 48 dX10_commandHere_43 (by decide) (fun h9 => absurd h9 (by decide : ¬ ((1 : Int32) = 0))) (fun _ => ?_)
          refine ev_iconst (3) dX10_commandHere_46 rfl ?_
          exact ev_ireturn .int dX10_commandHere_47 rfl rfl hQ
        · rw [if_neg c4]
          rw [if_neg c4] at hQ
          refine ev_if_eq 48 dX10_commandHere_43 (by decide) (fun _ => ?_) (fun h9 => absurd (by decide : ((0 : Int32) = 0)) h9)
          refine ev_aload_n (ev_o 10 a) dX10_commandHere_48 rfl rfl ?_
          refine ev_ldcw "mule" 36 dX10_commandHere_49 (List.mem_of_getElem? (i := 36) rfl) (by decide) ?_
          refine ev_cV mv_X10_isWord 5 0 10 [ev_x 1 36] [] dX10_commandHere_52 kw_1790 rfl (by decide) rfl (by decide) (by decide) (Nat.le_of_ble_eq_true rfl) hQ ?_ rfl
          rintro o S5 ⟨v5_, rfl, hQ⟩
          show ev_E g m_X10_commandHere 6 0 55 [some (ev_o 10 a)] [ev_i (if v5_ = true then 1 else 0)] S5 Q
          by_cases c5 : v5_ = true
          · rw [if_pos c5]
            rw [if_pos c5] at hQ
            refine ev_if_eq 60 dX10_commandHere_55 (by decide) (fun h9 => absurd h9 (by decide : ¬ ((1 : Int32) = 0))) (fun _ => ?_)
            refine ev_iconst (4) dX10_commandHere_58 rfl ?_
            exact ev_ireturn .int dX10_commandHere_59 rfl rfl hQ
          · rw [if_neg c5]
            rw [if_neg c5] at hQ
            refine ev_if_eq 60 dX10_commandHere_55 (by decide) (fun _ => ?_) (fun h9 => absurd (by decide : ((0 : Int32) = 0)) h9)
            refine ev_aload_n (ev_o 10 a) dX10_commandHere_60 rfl rfl ?_
            refine ev_ldc "snow" 31 dX10_commandHere_61 (List.mem_of_getElem? (i := 31) rfl) (by decide) ?_
            refine ev_cV mv_X10_isWord 5 0 10 [ev_x 1 31] [] dX10_commandHere_63 kw_1790 rfl (by decide) rfl (by decide) (by decide) (Nat.le_of_ble_eq_true rfl) hQ ?_ rfl
            rintro o S6 ⟨v6_, rfl, hQ⟩
            show ev_E g m_X10_commandHere 6 0 66 [some (ev_o 10 a)] [ev_i (if v6_ = true then 1 else 0)] S6 Q
            by_cases c6 : v6_ = true
            · rw [if_pos c6]
              rw [if_pos c6] at hQ
              refine ev_if_eq 71 dX10_commandHere_66 (by decide) (fun h9 => absurd h9 (by decide : ¬ ((1 : Int32) = 0))) (fun _ => ?_)
              refine ev_iconst (5) dX10_commandHere_69 rfl ?_
              exact ev_ireturn .int dX10_commandHere_70 rfl rfl hQ
            · rw [if_neg c6]
              rw [if_neg c6] at hQ
              refine ev_if_eq 71 dX10_commandHere_66 (by decide) (fun _ => ?_) (fun h9 => absurd (by decide : ((0 : Int32) = 0)) h9)
              refine ev_aload_n (ev_o 10 a) dX10_commandHere_71 rfl rfl ?_
              refine ev_ldcw "repeat" 37 dX10_commandHere_72 (List.mem_of_getElem? (i := 37) rfl) (by decide) ?_
              refine ev_cV mv_X10_isWord 5 0 10 [ev_x 1 37] [] dX10_commandHere_75 kw_1790 rfl (by decide) rfl (by decide) (by decide) (Nat.le_of_ble_eq_true rfl) hQ ?_ rfl
              rintro o S7 ⟨v7_, rfl, hQ⟩
              show ev_E g m_X10_commandHere 6 0 78 [some (ev_o 10 a)] [ev_i (if v7_ = true then 1 else 0)] S7 Q
              by_cases c7 : v7_ = true
              · rw [if_pos c7]
                rw [if_pos c7] at hQ
                refine ev_if_eq 86 dX10_commandHere_78 (by decide) (fun h9 => absurd h9 (by decide : ¬ ((1 : Int32) = 0))) (fun _ => ?_)
                refine ev_bipush (6) dX10_commandHere_81 (by decide) ?_
                refine ev_goto 87 dX10_commandHere_83 (by decide) ?_
                exact ev_ireturn .int dX10_commandHere_87 rfl rfl hQ
              · rw [if_neg c7]
                rw [if_neg c7] at hQ
                refine ev_if_eq 86 dX10_commandHere_78 (by decide) (fun _ => ?_) (fun h9 => absurd (by decide : ((0 : Int32) = 0)) h9)
                refine ev_iconst (-1) dX10_commandHere_86 rfl ?_
                exact ev_ireturn .int dX10_commandHere_87 rfl rfl hQ
set_option maxHeartbeats 4000000 in
set_option maxRecDepth 100000 in
theorem sg_X10_keepsNumber_0 {g : ev_G} {S : ev_S} {Q : ev_O → ev_S → Prop} (a : Nat) (x0 : Int32) (x1 : Int32) (x2 : Int32) (x3 : Int32) (hQ : ev_Cv g m_X10_number 4 0 [ev_o 10 a, ev_i x2, ev_i x3] S (fun o S1 => ∃ v1_ : Int32, o = .inl (some (ev_i v1_)) ∧ (
    (vp_in ((6 * x0) + x1) 180) ∧ (
      ∀ S2 : ev_S, S2 = (ev_up S1 (a + 9) ((6 * x0) + x1).toNatClampNeg v1_) → (
        Q (.inl none) S2))))) : ev_Cv g m_X10_keepsNumber 5 0 [ev_o 10 a, ev_i x0, ev_i x1, ev_i x2, ev_i x3] S Q := by
  refine ev_enter (by decide) rfl rfl (Nat.le_of_ble_eq_true rfl) ?_
  show ev_E g m_X10_keepsNumber 5 0 0 [some (ev_o 10 a), some (ev_i x0), some (ev_i x1), some (ev_i x2), some (ev_i x3)] [] S Q
  refine ev_aload_n (ev_o 10 a) dX10_keepsNumber_0 rfl rfl ?_
  refine gf_10_20 dX10_keepsNumber_1 kw_1873 ?_
  refine ev_bipush (6) dX10_keepsNumber_4 (by decide) ?_
  refine ev_iload_n (x0) dX10_keepsNumber_6 rfl ?_
  refine ev_imul dX10_keepsNumber_7 ?_
  refine ev_iload_n (x1) dX10_keepsNumber_8 rfl ?_
  refine ev_iadd dX10_keepsNumber_9 ?_
  refine ev_aload_n (ev_o 10 a) dX10_keepsNumber_10 rfl rfl ?_
  refine ev_iload_n (x2) dX10_keepsNumber_11 rfl ?_
  refine ev_iload (x3) dX10_keepsNumber_12 rfl ?_
  refine ev_cV mv_X10_number 4 0 10 [ev_i x2, ev_i x3] [ev_i ((6 * x0) + x1), ev_y 180 (a + 9)] dX10_keepsNumber_14 kw_1802 rfl (by decide) rfl (by decide) (by decide) (Nat.le_of_ble_eq_true rfl) hQ ?_ rfl
  rintro o S1 ⟨v1_, rfl, hQ⟩
  show ev_E g m_X10_keepsNumber 5 0 17 [some (ev_o 10 a), some (ev_i x0), some (ev_i x1), some (ev_i x2), some (ev_i x3)] [ev_i v1_, ev_i ((6 * x0) + x1), ev_y 180 (a + 9)] S1 Q
  obtain ⟨h1, hQ⟩ := hQ
  refine ev_iastore dX10_keepsNumber_17 h1 ?_
  obtain ⟨S2, hS2⟩ : ∃ z, z = (ev_up S1 (a + 9) ((6 * x0) + x1).toNatClampNeg v1_) := ⟨_, rfl⟩
  refine ev_E.goal (pc' := 18) (L' := [some (ev_o 10 a), some (ev_i x0), some (ev_i x1), some (ev_i x2), some (ev_i x3)]) (K' := []) (S' := S2) ?_ rfl rfl rfl hS2
  replace hQ := hQ S2 hS2
  exact ev_return dX10_keepsNumber_18 rfl hQ
set_option maxHeartbeats 4000000 in
set_option maxRecDepth 100000 in
theorem sg_X10_at_0 {g : ev_G} {S : ev_S} {Q : ev_O → ev_S → Prop} (a : Nat) (x0 : Int32) (x1 : Int32) (hQ : (vp_in ((6 * x0) + x1) 180) ∧ (
    Q (.inl (some (ev_i (S.1 (a + 9) ((6 * x0) + x1).toNatClampNeg)))) S)) : ev_Cv g m_X10_at 1 0 [ev_o 10 a, ev_i x0, ev_i x1] S Q := by
  refine ev_enter (by decide) rfl rfl (Nat.le_of_ble_eq_true rfl) ?_
  show ev_E g m_X10_at 1 0 0 [some (ev_o 10 a), some (ev_i x0), some (ev_i x1)] [] S Q
  refine ev_aload_n (ev_o 10 a) dX10_at_0 rfl rfl ?_
  refine gf_10_20 dX10_at_1 kw_1873 ?_
  refine ev_bipush (6) dX10_at_4 (by decide) ?_
  refine ev_iload_n (x0) dX10_at_6 rfl ?_
  refine ev_imul dX10_at_7 ?_
  refine ev_iload_n (x1) dX10_at_8 rfl ?_
  refine ev_iadd dX10_at_9 ?_
  obtain ⟨h1, hQ⟩ := hQ
  refine ev_iaload dX10_at_10 h1 ?_
  exact ev_ireturn .int dX10_at_11 rfl rfl hQ
set_option maxHeartbeats 4000000 in
set_option maxRecDepth 100000 in
theorem sp_X10_at {g : ev_G} {S : ev_S} (a : Nat) (x0 : Int32) (x1 : Int32) (q0 : vp_in ((6 * x0) + x1) 180) : ev_Fn g m_X10_at 1 [ev_o 10 a, ev_i x0, ev_i x1] S (some (ev_i (S.1 (a + 9) ((6 * x0) + x1).toNatClampNeg))) S := by
  intro Q hQ
  refine sg_X10_at_0 a x0 x1 ?_
  refine ⟨(q0), ?_⟩
  exact hQ
set_option maxHeartbeats 4000000 in
set_option maxRecDepth 100000 in
theorem sg_X10_readsSingle_0 {g : ev_G} {S : ev_S} {Q : ev_O → ev_S → Prop} (a : Nat) (x0 : Int32) (hQ : (vp_in x0 30) ∧ (
    if (S.1 (a + 8) x0.toNatClampNeg) = 0 then (
      ev_Cv g m_X10_keepsNumber 5 0 [ev_o 10 a, ev_i x0, ev_i 0, ev_i 0, ev_i 1] S (fun o S1 => o = .inl none ∧ (
        ev_Cv g m_X10_keepsNumber 5 0 [ev_o 10 a, ev_i x0, ev_i 1, ev_i 0, ev_i 63] S1 (fun o S2 => o = .inl none ∧ (
          ev_Cv g m_X10_keepsNumber 5 0 [ev_o 10 a, ev_i x0, ev_i 2, ev_i 0, ev_i 63] S2 (fun o S3 => o = .inl none ∧ (
            ev_Cv g m_X10_keepsNumber 5 0 [ev_o 10 a, ev_i x0, ev_i 3, ev_i 0, ev_i 3] S3 (fun o S4 => o = .inl none ∧ (
              Q (.inl none) S4)))))))))
    else (
      if (S.1 (a + 8) x0.toNatClampNeg) = 1 then (
        ev_Cv g m_X10_keepsNumber 5 0 [ev_o 10 a, ev_i x0, ev_i 0, ev_i 0, ev_i 1] S (fun o S5 => o = .inl none ∧ (
          ev_Cv g m_X10_keepsNumber 5 0 [ev_o 10 a, ev_i x0, ev_i 1, ev_i 0, ev_i 3] S5 (fun o S6 => o = .inl none ∧ (
            ev_E g m_X10_readsSingle 6 0 95 [some (ev_o 10 a), some (ev_i x0), some (ev_i 2)] [] S6 Q)))))
      else (
        if (S.1 (a + 8) x0.toNatClampNeg) = 2 then (
          ev_Cv g m_X10_keepsNumber 5 0 [ev_o 10 a, ev_i x0, ev_i 0, ev_i 0, ev_i 79] S (fun o S7 => o = .inl none ∧ (
            ev_Cv g m_X10_keepsNumber 5 0 [ev_o 10 a, ev_i x0, ev_i 1, ev_i 0, ev_i 3] S7 (fun o S8 => o = .inl none ∧ (
              Q (.inl none) S8)))))
        else (
          if (S.1 (a + 8) x0.toNatClampNeg) = 3 then (
            ev_Cv g m_X10_keepsNumber 5 0 [ev_o 10 a, ev_i x0, ev_i 0, ev_i 1, ev_i 60] S (fun o S9 => o = .inl none ∧ (
              Q (.inl none) S9)))
          else (
            if (S.1 (a + 8) x0.toNatClampNeg) = 4 then (
              ev_Cv g m_X10_keepsNumber 5 0 [ev_o 10 a, ev_i x0, ev_i 0, ev_i 0, ev_i 3] S (fun o S10 => o = .inl none ∧ (
                ev_Cv g m_X10_keepsNumber 5 0 [ev_o 10 a, ev_i x0, ev_i 1, ev_i 0, ev_i 1] S10 (fun o S11 => o = .inl none ∧ (
                  Q (.inl none) S11)))))
            else (
              ev_Cv g m_X10_keepsNumber 5 0 [ev_o 10 a, ev_i x0, ev_i 0, ev_i 0, ev_i 3] S (fun o S12 => o = .inl none ∧ (
                ev_Cv g m_X10_keepsNumber 5 0 [ev_o 10 a, ev_i x0, ev_i 1, ev_i 0, ev_i 11] S12 (fun o S13 => o = .inl none ∧ (
                  ev_Cv g m_X10_keepsNumber 5 0 [ev_o 10 a, ev_i x0, ev_i 2, ev_i 0, ev_i 9] S13 (fun o S14 => o = .inl none ∧ (
                    Q (.inl none) S14))))))))))))) : ev_Cv g m_X10_readsSingle 6 0 [ev_o 10 a, ev_i x0] S Q := by
  refine ev_enter (by decide) rfl rfl (Nat.le_of_ble_eq_true rfl) ?_
  show ev_E g m_X10_readsSingle 6 0 0 [some (ev_o 10 a), some (ev_i x0), none] [] S Q
  refine ev_aload_n (ev_o 10 a) dX10_readsSingle_0 rfl rfl ?_
  refine gf_10_19 dX10_readsSingle_1 kw_1872 ?_
  refine ev_iload_n (x0) dX10_readsSingle_4 rfl ?_
  obtain ⟨h1, hQ⟩ := hQ
  refine ev_iaload dX10_readsSingle_5 h1 ?_
  by_cases c1 : (S.1 (a + 8) x0.toNatClampNeg) = 0
  · rw [if_pos c1] at hQ
    refine ev_tableIn (off := 34) 40 dX10_readsSingle_6 (by rw [c1]; decide) (by rw [c1]; decide) (by rw [c1]; rfl) (by decide) ?_
    refine ev_aload_n (ev_o 10 a) dX10_readsSingle_40 rfl rfl ?_
    refine ev_iload_n (x0) dX10_readsSingle_41 rfl ?_
    refine ev_iconst (0) dX10_readsSingle_42 rfl ?_
    refine ev_iconst (0) dX10_readsSingle_43 rfl ?_
    refine ev_iconst (1) dX10_readsSingle_44 rfl ?_
    refine ev_cV mv_X10_keepsNumber 5 0 10 [ev_i x0, ev_i 0, ev_i 0, ev_i 1] [] dX10_readsSingle_45 kw_2001 rfl (by decide) rfl (by decide) (by decide) (Nat.le_of_ble_eq_true rfl) hQ ?_ rfl
    rintro o S1 ⟨rfl, hQ⟩
    show ev_E g m_X10_readsSingle 6 0 48 [some (ev_o 10 a), some (ev_i x0), none] [] S1 Q
    refine ev_aload_n (ev_o 10 a) dX10_readsSingle_48 rfl rfl ?_
    refine ev_iload_n (x0) dX10_readsSingle_49 rfl ?_
    refine ev_iconst (1) dX10_readsSingle_50 rfl ?_
    refine ev_iconst (0) dX10_readsSingle_51 rfl ?_
    refine ev_bipush (63) dX10_readsSingle_52 (by decide) ?_
    refine ev_cV mv_X10_keepsNumber 5 0 10 [ev_i x0, ev_i 1, ev_i 0, ev_i 63] [] dX10_readsSingle_54 kw_2001 rfl (by decide) rfl (by decide) (by decide) (Nat.le_of_ble_eq_true rfl) hQ ?_ rfl
    rintro o S2 ⟨rfl, hQ⟩
    show ev_E g m_X10_readsSingle 6 0 57 [some (ev_o 10 a), some (ev_i x0), none] [] S2 Q
    refine ev_aload_n (ev_o 10 a) dX10_readsSingle_57 rfl rfl ?_
    refine ev_iload_n (x0) dX10_readsSingle_58 rfl ?_
    refine ev_iconst (2) dX10_readsSingle_59 rfl ?_
    refine ev_iconst (0) dX10_readsSingle_60 rfl ?_
    refine ev_bipush (63) dX10_readsSingle_61 (by decide) ?_
    refine ev_cV mv_X10_keepsNumber 5 0 10 [ev_i x0, ev_i 2, ev_i 0, ev_i 63] [] dX10_readsSingle_63 kw_2001 rfl (by decide) rfl (by decide) (by decide) (Nat.le_of_ble_eq_true rfl) hQ ?_ rfl
    rintro o S3 ⟨rfl, hQ⟩
    show ev_E g m_X10_readsSingle 6 0 66 [some (ev_o 10 a), some (ev_i x0), none] [] S3 Q
    refine ev_aload_n (ev_o 10 a) dX10_readsSingle_66 rfl rfl ?_
    refine ev_iload_n (x0) dX10_readsSingle_67 rfl ?_
    refine ev_iconst (3) dX10_readsSingle_68 rfl ?_
    refine ev_iconst (0) dX10_readsSingle_69 rfl ?_
    refine ev_iconst (3) dX10_readsSingle_70 rfl ?_
    refine ev_cV mv_X10_keepsNumber 5 0 10 [ev_i x0, ev_i 3, ev_i 0, ev_i 3] [] dX10_readsSingle_71 kw_2001 rfl (by decide) rfl (by decide) (by decide) (Nat.le_of_ble_eq_true rfl) hQ ?_ rfl
    rintro o S4 ⟨rfl, hQ⟩
    show ev_E g m_X10_readsSingle 6 0 74 [some (ev_o 10 a), some (ev_i x0), none] [] S4 Q
    refine ev_goto 196 dX10_readsSingle_74 (by decide) ?_
    exact ev_return dX10_readsSingle_196 rfl hQ
  · rw [if_neg c1] at hQ
    by_cases c2 : (S.1 (a + 8) x0.toNatClampNeg) = 1
    · rw [if_pos c2] at hQ
      refine ev_tableIn (off := 71) 77 dX10_readsSingle_6 (by rw [c2]; decide) (by rw [c2]; decide) (by rw [c2]; rfl) (by decide) ?_
      refine ev_aload_n (ev_o 10 a) dX10_readsSingle_77 rfl rfl ?_
      refine ev_iload_n (x0) dX10_readsSingle_78 rfl ?_
      refine ev_iconst (0) dX10_readsSingle_79 rfl ?_
      refine ev_iconst (0) dX10_readsSingle_80 rfl ?_
      refine ev_iconst (1) dX10_readsSingle_81 rfl ?_
      refine ev_cV mv_X10_keepsNumber 5 0 10 [ev_i x0, ev_i 0, ev_i 0, ev_i 1] [] dX10_readsSingle_82 kw_2001 rfl (by decide) rfl (by decide) (by decide) (Nat.le_of_ble_eq_true rfl) hQ ?_ rfl
      rintro o S5 ⟨rfl, hQ⟩
      show ev_E g m_X10_readsSingle 6 0 85 [some (ev_o 10 a), some (ev_i x0), none] [] S5 Q
      refine ev_aload_n (ev_o 10 a) dX10_readsSingle_85 rfl rfl ?_
      refine ev_iload_n (x0) dX10_readsSingle_86 rfl ?_
      refine ev_iconst (1) dX10_readsSingle_87 rfl ?_
      refine ev_iconst (0) dX10_readsSingle_88 rfl ?_
      refine ev_iconst (3) dX10_readsSingle_89 rfl ?_
      refine ev_cV mv_X10_keepsNumber 5 0 10 [ev_i x0, ev_i 1, ev_i 0, ev_i 3] [] dX10_readsSingle_90 kw_2001 rfl (by decide) rfl (by decide) (by decide) (Nat.le_of_ble_eq_true rfl) hQ ?_ rfl
      rintro o S6 ⟨rfl, hQ⟩
      show ev_E g m_X10_readsSingle 6 0 93 [some (ev_o 10 a), some (ev_i x0), none] [] S6 Q
      refine ev_iconst (2) dX10_readsSingle_93 rfl ?_
      refine ev_istore_n dX10_readsSingle_94 (Nat.le_of_ble_eq_true rfl) (ev_hw rfl) ?_
      show ev_E g m_X10_readsSingle 6 0 95 [some (ev_o 10 a), some (ev_i x0), some (ev_i 2)] [] S6 Q
      exact hQ
    · rw [if_neg c2] at hQ
      by_cases c3 : (S.1 (a + 8) x0.toNatClampNeg) = 2
      · rw [if_pos c3] at hQ
        refine ev_tableIn (off := 113) 119 dX10_readsSingle_6 (by rw [c3]; decide) (by rw [c3]; decide) (by rw [c3]; rfl) (by decide) ?_
        refine ev_aload_n (ev_o 10 a) dX10_readsSingle_119 rfl rfl ?_
        refine ev_iload_n (x0) dX10_readsSingle_120 rfl ?_
        refine ev_iconst (0) dX10_readsSingle_121 rfl ?_
        refine ev_iconst (0) dX10_readsSingle_122 rfl ?_
        refine ev_bipush (79) dX10_readsSingle_123 (by decide) ?_
        refine ev_cV mv_X10_keepsNumber 5 0 10 [ev_i x0, ev_i 0, ev_i 0, ev_i 79] [] dX10_readsSingle_125 kw_2001 rfl (by decide) rfl (by decide) (by decide) (Nat.le_of_ble_eq_true rfl) hQ ?_ rfl
        rintro o S7 ⟨rfl, hQ⟩
        show ev_E g m_X10_readsSingle 6 0 128 [some (ev_o 10 a), some (ev_i x0), none] [] S7 Q
        refine ev_aload_n (ev_o 10 a) dX10_readsSingle_128 rfl rfl ?_
        refine ev_iload_n (x0) dX10_readsSingle_129 rfl ?_
        refine ev_iconst (1) dX10_readsSingle_130 rfl ?_
        refine ev_iconst (0) dX10_readsSingle_131 rfl ?_
        refine ev_iconst (3) dX10_readsSingle_132 rfl ?_
        refine ev_cV mv_X10_keepsNumber 5 0 10 [ev_i x0, ev_i 1, ev_i 0, ev_i 3] [] dX10_readsSingle_133 kw_2001 rfl (by decide) rfl (by decide) (by decide) (Nat.le_of_ble_eq_true rfl) hQ ?_ rfl
        rintro o S8 ⟨rfl, hQ⟩
        show ev_E g m_X10_readsSingle 6 0 136 [some (ev_o 10 a), some (ev_i x0), none] [] S8 Q
        refine ev_goto 196 dX10_readsSingle_136 (by decide) ?_
        exact ev_return dX10_readsSingle_196 rfl hQ
      · rw [if_neg c3] at hQ
        by_cases c4 : (S.1 (a + 8) x0.toNatClampNeg) = 3
        · rw [if_pos c4] at hQ
          refine ev_tableIn (off := 133) 139 dX10_readsSingle_6 (by rw [c4]; decide) (by rw [c4]; decide) (by rw [c4]; rfl) (by decide) ?_
          refine ev_aload_n (ev_o 10 a) dX10_readsSingle_139 rfl rfl ?_
          refine ev_iload_n (x0) dX10_readsSingle_140 rfl ?_
          refine ev_iconst (0) dX10_readsSingle_141 rfl ?_
          refine ev_iconst (1) dX10_readsSingle_142 rfl ?_
          refine ev_bipush (60) dX10_readsSingle_143 (by decide) ?_
          refine ev_cV mv_X10_keepsNumber 5 0 10 [ev_i x0, ev_i 0, ev_i 1, ev_i 60] [] dX10_readsSingle_145 kw_2001 rfl (by decide) rfl (by decide) (by decide) (Nat.le_of_ble_eq_true rfl) hQ ?_ rfl
          rintro o S9 ⟨rfl, hQ⟩
          show ev_E g m_X10_readsSingle 6 0 148 [some (ev_o 10 a), some (ev_i x0), none] [] S9 Q
          refine ev_goto 196 dX10_readsSingle_148 (by decide) ?_
          exact ev_return dX10_readsSingle_196 rfl hQ
        · rw [if_neg c4] at hQ
          by_cases c5 : (S.1 (a + 8) x0.toNatClampNeg) = 4
          · rw [if_pos c5] at hQ
            refine ev_tableIn (off := 145) 151 dX10_readsSingle_6 (by rw [c5]; decide) (by rw [c5]; decide) (by rw [c5]; rfl) (by decide) ?_
            refine ev_aload_n (ev_o 10 a) dX10_readsSingle_151 rfl rfl ?_
            refine ev_iload_n (x0) dX10_readsSingle_152 rfl ?_
            refine ev_iconst (0) dX10_readsSingle_153 rfl ?_
            refine ev_iconst (0) dX10_readsSingle_154 rfl ?_
            refine ev_iconst (3) dX10_readsSingle_155 rfl ?_
            refine ev_cV mv_X10_keepsNumber 5 0 10 [ev_i x0, ev_i 0, ev_i 0, ev_i 3] [] dX10_readsSingle_156 kw_2001 rfl (by decide) rfl (by decide) (by decide) (Nat.le_of_ble_eq_true rfl) hQ ?_ rfl
            rintro o S10 ⟨rfl, hQ⟩
            show ev_E g m_X10_readsSingle 6 0 159 [some (ev_o 10 a), some (ev_i x0), none] [] S10 Q
            refine ev_aload_n (ev_o 10 a) dX10_readsSingle_159 rfl rfl ?_
            refine ev_iload_n (x0) dX10_readsSingle_160 rfl ?_
            refine ev_iconst (1) dX10_readsSingle_161 rfl ?_
            refine ev_iconst (0) dX10_readsSingle_162 rfl ?_
            refine ev_iconst (1) dX10_readsSingle_163 rfl ?_
            refine ev_cV mv_X10_keepsNumber 5 0 10 [ev_i x0, ev_i 1, ev_i 0, ev_i 1] [] dX10_readsSingle_164 kw_2001 rfl (by decide) rfl (by decide) (by decide) (Nat.le_of_ble_eq_true rfl) hQ ?_ rfl
            rintro o S11 ⟨rfl, hQ⟩
            show ev_E g m_X10_readsSingle 6 0 167 [some (ev_o 10 a), some (ev_i x0), none] [] S11 Q
            refine ev_goto 196 dX10_readsSingle_167 (by decide) ?_
            exact ev_return dX10_readsSingle_196 rfl hQ
          · rw [if_neg c5] at hQ
            refine ev_tableOut 170 dX10_readsSingle_6 (j_out0 (fun k h1 h2 h3 => by
                have h4 : k = 0 ∨ k = 1 ∨ k = 2 ∨ k = 3 ∨ k = 4 := by omega
                rcases h4 with rfl | rfl | rfl | rfl | rfl
                · exact c1 (h3.trans (by decide))
                · exact c2 (h3.trans (by decide))
                · exact c3 (h3.trans (by decide))
                · exact c4 (h3.trans (by decide))
                · exact c5 (h3.trans (by decide)))) (by decide) ?_
            refine ev_aload_n (ev_o 10 a) dX10_readsSingle_170 rfl rfl ?_
            refine ev_iload_n (x0) dX10_readsSingle_171 rfl ?_
            refine ev_iconst (0) dX10_readsSingle_172 rfl ?_
            refine ev_iconst (0) dX10_readsSingle_173 rfl ?_
            refine ev_iconst (3) dX10_readsSingle_174 rfl ?_
            refine ev_cV mv_X10_keepsNumber 5 0 10 [ev_i x0, ev_i 0, ev_i 0, ev_i 3] [] dX10_readsSingle_175 kw_2001 rfl (by decide) rfl (by decide) (by decide) (Nat.le_of_ble_eq_true rfl) hQ ?_ rfl
            rintro o S12 ⟨rfl, hQ⟩
            show ev_E g m_X10_readsSingle 6 0 178 [some (ev_o 10 a), some (ev_i x0), none] [] S12 Q
            refine ev_aload_n (ev_o 10 a) dX10_readsSingle_178 rfl rfl ?_
            refine ev_iload_n (x0) dX10_readsSingle_179 rfl ?_
            refine ev_iconst (1) dX10_readsSingle_180 rfl ?_
            refine ev_iconst (0) dX10_readsSingle_181 rfl ?_
            refine ev_bipush (11) dX10_readsSingle_182 (by decide) ?_
            refine ev_cV mv_X10_keepsNumber 5 0 10 [ev_i x0, ev_i 1, ev_i 0, ev_i 11] [] dX10_readsSingle_184 kw_2001 rfl (by decide) rfl (by decide) (by decide) (Nat.le_of_ble_eq_true rfl) hQ ?_ rfl
            rintro o S13 ⟨rfl, hQ⟩
            show ev_E g m_X10_readsSingle 6 0 187 [some (ev_o 10 a), some (ev_i x0), none] [] S13 Q
            refine ev_aload_n (ev_o 10 a) dX10_readsSingle_187 rfl rfl ?_
            refine ev_iload_n (x0) dX10_readsSingle_188 rfl ?_
            refine ev_iconst (2) dX10_readsSingle_189 rfl ?_
            refine ev_iconst (0) dX10_readsSingle_190 rfl ?_
            refine ev_bipush (9) dX10_readsSingle_191 (by decide) ?_
            refine ev_cV mv_X10_keepsNumber 5 0 10 [ev_i x0, ev_i 2, ev_i 0, ev_i 9] [] dX10_readsSingle_193 kw_2001 rfl (by decide) rfl (by decide) (by decide) (Nat.le_of_ble_eq_true rfl) hQ ?_ rfl
            rintro o S14 ⟨rfl, hQ⟩
            show ev_E g m_X10_readsSingle 6 0 196 [some (ev_o 10 a), some (ev_i x0), none] [] S14 Q
            exact ev_return dX10_readsSingle_196 rfl hQ
set_option maxHeartbeats 4000000 in
set_option maxRecDepth 100000 in
theorem sg_X10_readsSingle_95 {g : ev_G} {S : ev_S} {Q : ev_O → ev_S → Prop} (a : Nat) (u1 : Int32) (u2 : Int32) (hQ : if 6 ≤ u2 then (
    Q (.inl none) S)
  else (
    ev_Cv g m_X10_keepsNumber 5 0 [ev_o 10 a, ev_i u1, ev_i u2, ev_i 0, ev_i 63] S (fun o S1 => o = .inl none ∧ (
      ev_E g m_X10_readsSingle 6 0 95 [some (ev_o 10 a), some (ev_i u1), some (ev_i (u2 + 1))] [] S1 Q)))) : ev_E g m_X10_readsSingle 6 0 95 [some (ev_o 10 a), some (ev_i u1), some (ev_i u2)] [] S Q := by
  refine ev_iload_n (u2) dX10_readsSingle_95 rfl ?_
  refine ev_bipush (6) dX10_readsSingle_96 (by decide) ?_
  refine ev_icmp_ge 116 dX10_readsSingle_98 (by decide) (fun c1 => ?_) (fun c1 => ?_)
  · rw [if_pos c1] at hQ
    refine ev_goto 196 dX10_readsSingle_116 (by decide) ?_
    exact ev_return dX10_readsSingle_196 rfl hQ
  · rw [if_neg c1] at hQ
    refine ev_aload_n (ev_o 10 a) dX10_readsSingle_101 rfl rfl ?_
    refine ev_iload_n (u1) dX10_readsSingle_102 rfl ?_
    refine ev_iload_n (u2) dX10_readsSingle_103 rfl ?_
    refine ev_iconst (0) dX10_readsSingle_104 rfl ?_
    refine ev_bipush (63) dX10_readsSingle_105 (by decide) ?_
    refine ev_cV mv_X10_keepsNumber 5 0 10 [ev_i u1, ev_i u2, ev_i 0, ev_i 63] [] dX10_readsSingle_107 kw_2001 rfl (by decide) rfl (by decide) (by decide) (Nat.le_of_ble_eq_true rfl) hQ ?_ rfl
    rintro o S1 ⟨rfl, hQ⟩
    show ev_E g m_X10_readsSingle 6 0 110 [some (ev_o 10 a), some (ev_i u1), some (ev_i u2)] [] S1 Q
    refine ev_iinc u2 (1) dX10_readsSingle_110 rfl (by decide) (ev_hw rfl) ?_
    show ev_E g m_X10_readsSingle 6 0 113 [some (ev_o 10 a), some (ev_i u1), some (ev_i (u2 + 1))] [] S1 Q
    refine ev_goto 95 dX10_readsSingle_113 (by decide) ?_
    exact hQ
