set_option maxHeartbeats 4000000 in
set_option maxRecDepth 100000 in
theorem sg_L_promises_0 {g : ev_G} {S : ev_S} {Q : ev_O → ev_S → Prop} {B : Nat} (b0 : Nat) (b1 : Nat) (x2 : Int32) (x3 : Int32) (x4 : Int32) (x5 : Int32) (hQ : (vp_in x2 2) ∧ (
    ev_Cv g m_X11_isOver 2 0 [ev_o 11 b1, ev_i x2] S (fun o S1 => ∃ v1_ : Bool, o = .inl (some (ev_i (if v1_ = true then 1 else 0))) ∧ (
      (v1_ = true → (
        ev_E g m_L_promises 7 (B + 80) 66 [none, some (ev_o 11 b1), none, none, none, none, none, none, none, none, none] [] S1 Q)) ∧
      (¬ (v1_ = true) → (
        ev_Cv g m_X11_isTurn 3 0 [ev_o 11 b1, ev_i x2] S1 (fun o S2 => ∃ v2_ : Bool, o = .inl (some (ev_i (if v2_ = true then 1 else 0))) ∧ (
          (v2_ = true → (
            ev_E g m_L_promises 7 (B + 80) 66 [none, some (ev_o 11 b1), none, none, none, none, none, none, none, none, none] [] S2 Q)) ∧
          (¬ (v2_ = true) → (
            ((S2.1 b1 4) = 80 → (
              ev_E g m_L_promises 7 (B + 80) 66 [none, some (ev_o 11 b1), none, none, none, none, none, none, none, none, none] [] S2 Q)) ∧
            (¬ ((S2.1 b1 4) = 80) → (
              (vp_in ((S.1 (a_bd (b1 + 1) x2) 6) + 2) 64) ∧ (
                ((S2.1 (b1 + 30) ((S.1 (a_bd (b1 + 1) x2) 6) + 2).toNatClampNeg) = 0 → (
                  (((S2.1 (a_bd (b1 + 1) x2) 6) + 1) = (S2.1 b1 1) → (
                    ev_E g m_L_promises 7 (B + 80) 66 [none, some (ev_o 11 b1), none, none, none, none, none, none, none, none, none] [] S2 Q)) ∧
                  (¬ (((S2.1 (a_bd (b1 + 1) x2) 6) + 1) = (S2.1 b1 1)) → (
                    ev_Cv g m_L_some 2 0 [ev_o 11 b1, ev_o 10 (a_bd (b1 + 1) x2), ev_i (1 - x2), ev_i x3] S2 (fun o S3 => ∃ v3_ : Int32, o = .inl (some (ev_i v3_)) ∧ (
                      (0 ≤ v3_ → (
                        ∀ q1_, ev_lw g ((1, q1_) :: S3.2.1) → ∀ S4 : ev_S, S4 = ev_nt S3 1 q1_ (ct_row ct_t10) → (
                          ev_Cv g m_X10_takes 1 0 [ev_o 10 q1_, ev_o 10 (a_bd (b1 + 1) x2)] S4 (fun o S5 => o = .inl none ∧ (
                            (vp_in (ev_rem v3_ 64) 64) ∧ (
                              ∀ S6 : ev_S, S6 = (ev_up S5 (q1_ + 1) (ev_rem v3_ 64).toNatClampNeg (1 - x2)) → (
                                (vp_in (v3_ / 64) 64) ∧ (
                                  ∀ S7 : ev_S, S7 = (ev_up S6 (q1_ + 1) (v3_ / 64).toNatClampNeg (-1)) → (
                                    ev_Cv g m_X10_bishops 1 0 [ev_o 10 q1_, ev_i x2] S7 (fun o S8 => ∃ v5_ : Int32, o = .inl (some (ev_i v5_)) ∧ (
                                      (v5_ = 0 → (
                                        ev_E g m_L_promises 7 B 167 [some (ev_o 9 b0), some (ev_o 11 b1), some (ev_i x2), none, none, some (ev_i x5), some (ev_i ((S.1 (a_bd (b1 + 1) x2) 6) + 2)), some (ev_i v3_), none, some (ev_i (-1)), none] [] S8 Q)) ∧
                                      (¬ (v5_ = 0) → (
                                        ev_Cv g m_L_some 2 0 [ev_o 11 b1, ev_o 10 q1_, ev_i x2, ev_i x4] S8 (fun o S9 => ∃ v6_ : Int32, o = .inl (some (ev_i v6_)) ∧ (
                                          ev_E g m_L_promises 7 B 167 [some (ev_o 9 b0), some (ev_o 11 b1), some (ev_i x2), none, none, some (ev_i x5), some (ev_i ((S.1 (a_bd (b1 + 1) x2) 6) + 2)), some (ev_i v3_), none, some (ev_i v6_), none] [] S9 Q))))))))))))))) ∧
                      (¬ (0 ≤ v3_) → (
                        ∀ S10 : ev_S, S10 = (ev_up S3 b1 33 1) → (
                          Q (.inl (some (ev_i 1))) S10))))))))) ∧
                (¬ ((S2.1 (b1 + 30) ((S.1 (a_bd (b1 + 1) x2) 6) + 2).toNatClampNeg) = 0) → (
                  ev_E g m_L_promises 7 (B + 80) 66 [none, some (ev_o 11 b1), none, none, none, none, none, none, none, none, none] [] S2 Q))))))))))))))) : ev_Cv g m_L_promises 7 (B + 80) [ev_o 9 b0, ev_o 11 b1, ev_i x2, ev_i x3, ev_i x4, ev_i x5] S Q := by
  refine ev_enter (by decide) rfl rfl (Nat.le_of_ble_eq_true rfl) ?_
  show ev_E g m_L_promises 7 (B + 80) 0 [some (ev_o 9 b0), some (ev_o 11 b1), some (ev_i x2), some (ev_i x3), some (ev_i x4), some (ev_i x5), none, none, none, none, none] [] S Q
  refine ev_aload_n (ev_o 11 b1) dL_promises_0 rfl rfl ?_
  refine gn_11_11 dL_promises_1 (List.mem_of_getElem? (i := 31) rfl) ?_
  refine ev_iload_n (x2) dL_promises_4 rfl ?_
  obtain ⟨h1, hQ⟩ := hQ
  refine ev_aalB dL_promises_5 h1 ?_
  show ev_E g m_L_promises 7 (B + 80) 6 [some (ev_o 9 b0), some (ev_o 11 b1), some (ev_i x2), some (ev_i x3), some (ev_i x4), some (ev_i x5), none, none, none, none, none] [ev_o 10 (a_bd (b1 + 1) x2)] S Q
  refine gn_10_6 dL_promises_6 (List.mem_of_getElem? (i := 11) rfl) ?_
  refine ev_iconst (2) dL_promises_9 rfl ?_
  refine ev_iadd dL_promises_10 ?_
  refine ev_istore dL_promises_11 (Nat.le_of_ble_eq_true rfl) (ev_hw rfl) ?_
  show ev_E g m_L_promises 7 (B + 80) 13 [some (ev_o 9 b0), some (ev_o 11 b1), some (ev_i x2), some (ev_i x3), some (ev_i x4), some (ev_i x5), some (ev_i ((S.1 (a_bd (b1 + 1) x2) 6) + 2)), none, none, none, none] [] S Q
  refine ev_aload_n (ev_o 11 b1) dL_promises_13 rfl rfl ?_
  refine ev_iload_n (x2) dL_promises_14 rfl ?_
  refine ev_cV mv_X11_isOver 2 0 11 [ev_i x2] [] dL_promises_15 kw_1040 rfl (by decide) rfl (by decide) (by omega) (Nat.le_of_ble_eq_true rfl) hQ ?_ rfl
  rintro o S1 ⟨v1_, rfl, hQ⟩
  show ev_E g m_L_promises 7 (B + 80) 18 [some (ev_o 9 b0), some (ev_o 11 b1), some (ev_i x2), some (ev_i x3), some (ev_i x4), some (ev_i x5), some (ev_i ((S.1 (a_bd (b1 + 1) x2) 6) + 2)), none, none, none, none] [ev_i (if v1_ = true then 1 else 0)] S1 Q
  by_cases c1 : v1_ = true
  · rw [if_pos c1]
    replace hQ := hQ.1 c1
    refine ev_if_ne 66 dL_promises_18 (by decide) (fun _ => ?_) (fun h9 => absurd h9 (by decide : ¬ ((1 : Int32) = 0)))
    refine ev_fgm [false, true, false, false, false, false, false, false, false, false, false] ?_
    exact hQ
  · rw [if_neg c1]
    replace hQ := hQ.2 c1
    refine ev_if_ne 66 dL_promises_18 (by decide) (fun h9 => absurd (by decide : ((0 : Int32) = 0)) h9) (fun _ => ?_)
    refine ev_aload_n (ev_o 11 b1) dL_promises_21 rfl rfl ?_
    refine ev_iload_n (x2) dL_promises_22 rfl ?_
    refine ev_cV mv_X11_isTurn 3 0 11 [ev_i x2] [] dL_promises_23 kw_1031 rfl (by decide) rfl (by decide) (by omega) (Nat.le_of_ble_eq_true rfl) hQ ?_ rfl
    rintro o S2 ⟨v2_, rfl, hQ⟩
    show ev_E g m_L_promises 7 (B + 80) 26 [some (ev_o 9 b0), some (ev_o 11 b1), some (ev_i x2), some (ev_i x3), some (ev_i x4), some (ev_i x5), some (ev_i ((S.1 (a_bd (b1 + 1) x2) 6) + 2)), none, none, none, none] [ev_i (if v2_ = true then 1 else 0)] S2 Q
    by_cases c2 : v2_ = true
    · rw [if_pos c2]
      replace hQ := hQ.1 c2
      refine ev_if_ne 66 dL_promises_26 (by decide) (fun _ => ?_) (fun h9 => absurd h9 (by decide : ¬ ((1 : Int32) = 0)))
      refine ev_fgm [false, true, false, false, false, false, false, false, false, false, false] ?_
      exact hQ
    · rw [if_neg c2]
      replace hQ := hQ.2 c2
      refine ev_if_ne 66 dL_promises_26 (by decide) (fun h9 => absurd (by decide : ((0 : Int32) = 0)) h9) (fun _ => ?_)
      refine ev_aload_n (ev_o 11 b1) dL_promises_29 rfl rfl ?_
      refine gn_11_4 dL_promises_30 (List.mem_of_getElem? (i := 25) rfl) ?_
      refine ev_bipush (80) dL_promises_33 (by decide) ?_
      refine ev_icmp_eq 66 dL_promises_35 (by decide) (fun c3 => ?_) (fun c3 => ?_)
      · replace hQ := hQ.1 c3
        refine ev_fgm [false, true, false, false, false, false, false, false, false, false, false] ?_
        exact hQ
      · replace hQ := hQ.2 c3
        refine ev_aload_n (ev_o 11 b1) dL_promises_38 rfl rfl ?_
        refine gn_11_26 dL_promises_39 (List.mem_of_getElem? (i := 41) rfl) ?_
        refine ev_iload (((S.1 (a_bd (b1 + 1) x2) 6) + 2)) dL_promises_42 rfl ?_
        obtain ⟨h2, hQ⟩ := hQ
        refine ev_baload (n := 64) (by decide) dL_promises_44 h2 ?_
        refine ev_if_ne 66 dL_promises_45 (by decide) (fun c4 => ?_) (fun c4 => ?_)
        · replace hQ := hQ.2 c4
          refine ev_fgm [false, true, false, false, false, false, false, false, false, false, false] ?_
          exact hQ
        · replace hQ := hQ.1 c4
          refine ev_aload_n (ev_o 11 b1) dL_promises_48 rfl rfl ?_
          refine gn_11_11 dL_promises_49 (List.mem_of_getElem? (i := 31) rfl) ?_
          refine ev_iload_n (x2) dL_promises_52 rfl ?_
          refine ev_aalB dL_promises_53 h1 ?_
          show ev_E g m_L_promises 7 (B + 80) 54 [some (ev_o 9 b0), some (ev_o 11 b1), some (ev_i x2), some (ev_i x3), some (ev_i x4), some (ev_i x5), some (ev_i ((S.1 (a_bd (b1 + 1) x2) 6) + 2)), none, none, none, none] [ev_o 10 (a_bd (b1 + 1) x2)] S2 Q
          refine gn_10_6 dL_promises_54 (List.mem_of_getElem? (i := 11) rfl) ?_
          refine ev_iconst (1) dL_promises_57 rfl ?_
          refine ev_iadd dL_promises_58 ?_
          refine ev_aload_n (ev_o 11 b1) dL_promises_59 rfl rfl ?_
          refine gn_11_1 dL_promises_60 (List.mem_of_getElem? (i := 22) rfl) ?_
          refine ev_icmp_ne 71 dL_promises_63 (by decide) (fun c5 => ?_) (fun c5 => ?_)
          · replace hQ := hQ.2 c5
            refine ev_aload_n (ev_o 11 b1) dL_promises_71 rfl rfl ?_
            refine ev_aload_n (ev_o 11 b1) dL_promises_72 rfl rfl ?_
            refine gn_11_11 dL_promises_73 (List.mem_of_getElem? (i := 31) rfl) ?_
            refine ev_iload_n (x2) dL_promises_76 rfl ?_
            refine ev_aalB dL_promises_77 h1 ?_
            show ev_E g m_L_promises 7 (B + 80) 78 [some (ev_o 9 b0), some (ev_o 11 b1), some (ev_i x2), some (ev_i x3), some (ev_i x4), some (ev_i x5), some (ev_i ((S.1 (a_bd (b1 + 1) x2) 6) + 2)), none, none, none, none] [ev_o 10 (a_bd (b1 + 1) x2), ev_o 11 b1] S2 Q
            refine ev_iconst (1) dL_promises_78 rfl ?_
            refine ev_iload_n (x2) dL_promises_79 rfl ?_
            refine ev_isub dL_promises_80 ?_
            refine ev_iload_n (x3) dL_promises_81 rfl ?_
            refine ev_cS ms_L_some 2 0 [ev_o 11 b1, ev_o 10 (a_bd (b1 + 1) x2), ev_i (1 - x2), ev_i x3] [] dL_promises_82 kw_1522 rfl (by decide) (by omega) (Nat.le_of_ble_eq_true rfl) hQ ?_ rfl
            rintro o S3 ⟨v3_, rfl, hQ⟩
            show ev_E g m_L_promises 7 (B + 80) 85 [some (ev_o 9 b0), some (ev_o 11 b1), some (ev_i x2), some (ev_i x3), some (ev_i x4), some (ev_i x5), some (ev_i ((S.1 (a_bd (b1 + 1) x2) 6) + 2)), none, none, none, none] [ev_i v3_] S3 Q
            refine ev_istore dL_promises_85 (Nat.le_of_ble_eq_true rfl) (ev_hw rfl) ?_
            show ev_E g m_L_promises 7 (B + 80) 87 [some (ev_o 9 b0), some (ev_o 11 b1), some (ev_i x2), some (ev_i x3), some (ev_i x4), some (ev_i x5), some (ev_i ((S.1 (a_bd (b1 + 1) x2) 6) + 2)), some (ev_i v3_), none, none, none] [] S3 Q
            refine ev_iload (v3_) dL_promises_87 rfl ?_
            refine ev_if_ge 97 dL_promises_89 (by decide) (fun c6 => ?_) (fun c6 => ?_)
            · replace hQ := hQ.1 c6
              refine ev_newT1 dL_promises_97 dL_promises_100 dL_promises_101 kw_1586 (Or.inl ⟨_, List.mem_of_getElem? (i := 31) rfl⟩) (by omega) (by decide) (Nat.le_of_ble_eq_true rfl) (fun q1_ w1_ => ?_)
              replace hQ := hQ q1_ w1_
              refine ev_sub hQ (fun S4 hS4 hQ => ?_)
              refine ev_E.goal (pc' := 104) (L' := [some (ev_o 9 b0), some (ev_o 11 b1), some (ev_i x2), some (ev_i x3), some (ev_i x4), some (ev_i x5), some (ev_i ((S.1 (a_bd (b1 + 1) x2) 6) + 2)), some (ev_i v3_), none, none, none]) (K' := [ev_o 10 q1_]) (S' := S4) ?_ rfl rfl rfl hS4
              refine ev_astore dL_promises_104 rfl (Nat.le_of_ble_eq_true rfl) (ev_hw rfl) ?_
              show ev_E g m_L_promises 7 B 106 [some (ev_o 9 b0), some (ev_o 11 b1), some (ev_i x2), some (ev_i x3), some (ev_i x4), some (ev_i x5), some (ev_i ((S.1 (a_bd (b1 + 1) x2) 6) + 2)), some (ev_i v3_), some (ev_o 10 q1_), none, none] [] S4 Q
              refine ev_aload (ev_o 10 q1_) dL_promises_106 rfl rfl ?_
              refine ev_aload_n (ev_o 11 b1) dL_promises_108 rfl rfl ?_
              refine gn_11_11 dL_promises_109 (List.mem_of_getElem? (i := 31) rfl) ?_
              refine ev_iload_n (x2) dL_promises_112 rfl ?_
              refine ev_aalB dL_promises_113 h1 ?_
              show ev_E g m_L_promises 7 B 114 [some (ev_o 9 b0), some (ev_o 11 b1), some (ev_i x2), some (ev_i x3), some (ev_i x4), some (ev_i x5), some (ev_i ((S.1 (a_bd (b1 + 1) x2) 6) + 2)), some (ev_i v3_), some (ev_o 10 q1_), none, none] [ev_o 10 (a_bd (b1 + 1) x2), ev_o 10 q1_] S4 Q
              refine ev_cV mv_X10_takes 1 0 10 [ev_o 10 (a_bd (b1 + 1) x2)] [] dL_promises_114 kw_1588 rfl (by decide) rfl (by decide) (by omega) (Nat.le_of_ble_eq_true rfl) hQ ?_ rfl
              rintro o S5 ⟨rfl, hQ⟩
              show ev_E g m_L_promises 7 B 117 [some (ev_o 9 b0), some (ev_o 11 b1), some (ev_i x2), some (ev_i x3), some (ev_i x4), some (ev_i x5), some (ev_i ((S.1 (a_bd (b1 + 1) x2) 6) + 2)), some (ev_i v3_), some (ev_o 10 q1_), none, none] [] S5 Q
              refine ev_aload (ev_o 10 q1_) dL_promises_117 rfl rfl ?_
              refine gn_10_0 dL_promises_119 (List.mem_of_getElem? (i := 0) rfl) ?_
              refine ev_iload (v3_) dL_promises_122 rfl ?_
              refine ev_bipush (64) dL_promises_124 (by decide) ?_
              refine ev_irem dL_promises_126 (by decide) ?_
              refine ev_iconst (1) dL_promises_127 rfl ?_
              refine ev_iload_n (x2) dL_promises_128 rfl ?_
              refine ev_isub dL_promises_129 ?_
              obtain ⟨h3, hQ⟩ := hQ
              refine ev_iastore dL_promises_130 h3 ?_
              refine ev_sub hQ (fun S6 hS6 hQ => ?_)
              refine ev_E.goal (pc' := 131) (L' := [some (ev_o 9 b0), some (ev_o 11 b1), some (ev_i x2), some (ev_i x3), some (ev_i x4), some (ev_i x5), some (ev_i ((S.1 (a_bd (b1 + 1) x2) 6) + 2)), some (ev_i v3_), some (ev_o 10 q1_), none, none]) (K' := []) (S' := S6) ?_ rfl rfl rfl hS6
              refine ev_aload (ev_o 10 q1_) dL_promises_131 rfl rfl ?_
              refine gn_10_0 dL_promises_133 (List.mem_of_getElem? (i := 0) rfl) ?_
              refine ev_iload (v3_) dL_promises_136 rfl ?_
              refine ev_bipush (64) dL_promises_138 (by decide) ?_
              refine ev_idiv dL_promises_140 (by decide) ?_
              refine ev_iconst (-1) dL_promises_141 rfl ?_
              obtain ⟨h4, hQ⟩ := hQ
              refine ev_iastore dL_promises_142 h4 ?_
              refine ev_sub hQ (fun S7 hS7 hQ => ?_)
              refine ev_E.goal (pc' := 143) (L' := [some (ev_o 9 b0), some (ev_o 11 b1), some (ev_i x2), some (ev_i x3), some (ev_i x4), some (ev_i x5), some (ev_i ((S.1 (a_bd (b1 + 1) x2) 6) + 2)), some (ev_i v3_), some (ev_o 10 q1_), none, none]) (K' := []) (S' := S7) ?_ rfl rfl rfl hS7
              refine ev_aload (ev_o 10 q1_) dL_promises_143 rfl rfl ?_
              refine ev_iload_n (x2) dL_promises_145 rfl ?_
              refine ev_cV mv_X10_bishops 1 0 10 [ev_i x2] [] dL_promises_146 kw_1023 rfl (by decide) rfl (by decide) (by omega) (Nat.le_of_ble_eq_true rfl) hQ ?_ rfl
              rintro o S8 ⟨v5_, rfl, hQ⟩
              show ev_E g m_L_promises 7 B 149 [some (ev_o 9 b0), some (ev_o 11 b1), some (ev_i x2), some (ev_i x3), some (ev_i x4), some (ev_i x5), some (ev_i ((S.1 (a_bd (b1 + 1) x2) 6) + 2)), some (ev_i v3_), some (ev_o 10 q1_), none, none] [ev_i v5_] S8 Q
              refine ev_if_ne 156 dL_promises_149 (by decide) (fun c7 => ?_) (fun c7 => ?_)
              · replace hQ := hQ.2 c7
                refine ev_aload_n (ev_o 11 b1) dL_promises_156 rfl rfl ?_
                refine ev_aload (ev_o 10 q1_) dL_promises_157 rfl rfl ?_
                refine ev_iload_n (x2) dL_promises_159 rfl ?_
                refine ev_iload (x4) dL_promises_160 rfl ?_
                refine ev_cS ms_L_some 2 0 [ev_o 11 b1, ev_o 10 q1_, ev_i x2, ev_i x4] [] dL_promises_162 kw_1522 rfl (by decide) (by omega) (Nat.le_of_ble_eq_true rfl) hQ ?_ rfl
                rintro o S9 ⟨v6_, rfl, hQ⟩
                show ev_E g m_L_promises 7 B 165 [some (ev_o 9 b0), some (ev_o 11 b1), some (ev_i x2), some (ev_i x3), some (ev_i x4), some (ev_i x5), some (ev_i ((S.1 (a_bd (b1 + 1) x2) 6) + 2)), some (ev_i v3_), some (ev_o 10 q1_), none, none] [ev_i v6_] S9 Q
                refine ev_istore dL_promises_165 (Nat.le_of_ble_eq_true rfl) (ev_hw rfl) ?_
                show ev_E g m_L_promises 7 B 167 [some (ev_o 9 b0), some (ev_o 11 b1), some (ev_i x2), some (ev_i x3), some (ev_i x4), some (ev_i x5), some (ev_i ((S.1 (a_bd (b1 + 1) x2) 6) + 2)), some (ev_i v3_), some (ev_o 10 q1_), some (ev_i v6_), none] [] S9 Q
                refine ev_fgm [true, true, true, false, false, true, true, true, false, true, false] ?_
                exact hQ
              · replace hQ := hQ.1 c7
                refine ev_iconst (-1) dL_promises_152 rfl ?_
                refine ev_goto 165 dL_promises_153 (by decide) ?_
                refine ev_istore dL_promises_165 (Nat.le_of_ble_eq_true rfl) (ev_hw rfl) ?_
                show ev_E g m_L_promises 7 B 167 [some (ev_o 9 b0), some (ev_o 11 b1), some (ev_i x2), some (ev_i x3), some (ev_i x4), some (ev_i x5), some (ev_i ((S.1 (a_bd (b1 + 1) x2) 6) + 2)), some (ev_i v3_), some (ev_o 10 q1_), some (ev_i (-1)), none] [] S8 Q
                refine ev_fgm [true, true, true, false, false, true, true, true, false, true, false] ?_
                exact hQ
            · replace hQ := hQ.2 c6
              refine ev_aload_n (ev_o 11 b1) dL_promises_92 rfl rfl ?_
              refine ev_fV mv_X11_leaves 1 11 [] [] dL_promises_93 kw_1518 rfl (by decide) rfl (by decide) (Nat.le_of_ble_eq_true rfl) (sp_X11_leaves b1) ?_ rfl
              refine ev_sub hQ (fun S10 hS10 hQ => ?_)
              refine ev_E.goal (pc' := 96) (L' := [some (ev_o 9 b0), some (ev_o 11 b1), some (ev_i x2), some (ev_i x3), some (ev_i x4), some (ev_i x5), some (ev_i ((S.1 (a_bd (b1 + 1) x2) 6) + 2)), some (ev_i v3_), none, none, none]) (K' := [ev_i 1]) (S' := S10) ?_ rfl rfl rfl hS10
              exact ev_ireturn .boolean dL_promises_96 rfl rfl hQ
          · replace hQ := hQ.1 c5
            refine ev_fgm [false, true, false, false, false, false, false, false, false, false, false] ?_
            exact hQ
set_option maxHeartbeats 4000000 in
set_option maxRecDepth 100000 in
theorem sg_L_promises_66 {g : ev_G} {S : ev_S} {Q : ev_O → ev_S → Prop} {B : Nat} (b0 : Nat) (b1 : Nat) (hQ : ∀ S1 : ev_S, S1 = (ev_up S b1 33 1) → (
    Q (.inl (some (ev_i 1))) S1)) : ev_E g m_L_promises 7 B 66 [none, some (ev_o 11 b1), none, none, none, none, none, none, none, none, none] [] S Q := by
  refine ev_aload_n (ev_o 11 b1) dL_promises_66 rfl rfl ?_
  refine ev_fV mv_X11_leaves 1 11 [] [] dL_promises_67 kw_1518 rfl (by decide) rfl (by decide) (Nat.le_of_ble_eq_true rfl) (sp_X11_leaves b1) ?_ rfl
  refine ev_sub hQ (fun S1 hS1 hQ => ?_)
  refine ev_E.goal (pc' := 70) (L' := [none, some (ev_o 11 b1), none, none, none, none, none, none, none, none, none]) (K' := [ev_i 1]) (S' := S1) ?_ rfl rfl rfl hS1
  exact ev_ireturn .boolean dL_promises_70 rfl rfl hQ
set_option maxHeartbeats 4000000 in
set_option maxRecDepth 100000 in
theorem sg_L_promises_167 {g : ev_G} {S : ev_S} {Q : ev_O → ev_S → Prop} {B : Nat} (b0 : Nat) (b1 : Nat) (u2 : Int32) (u5 : Int32) (u6 : Int32) (u7 : Int32) (u9 : Int32) (hQ : (0 ≤ u9 → (
    (vp_in u6 64) ∧ (
      ∀ S1 : ev_S, S1 = (ev_up S (b1 + 30) u6.toNatClampNeg 1) → (
        ∀ S2 : ev_S, S2 = (ev_up S1 (b1 + 32) u6.toNatClampNeg (u7 / 64)) → (
          ∀ S3 : ev_S, S3 = (ev_up S2 (b1 + 33) u6.toNatClampNeg (ev_rem u7 64)) → (
            ∀ S4 : ev_S, S4 = (ev_up S3 (b1 + 34) u6.toNatClampNeg (u9 / 64)) → (
              ∀ S5 : ev_S, S5 = (ev_up S4 (b1 + 35) u6.toNatClampNeg (ev_rem u9 64)) → (
                ev_Cv g m_X11_posts 1 0 [ev_o 11 b1, ev_i u2, ev_i u5, ev_i 1, ev_i u6, ev_i (u9 / 64), ev_i (ev_rem u9 64)] S5 (fun o S6 => ∃ v1_ : Int32, o = .inl (some (ev_i v1_)) ∧ (
                  ev_Cv g m_X9_promise 6 1 [ev_o 9 b0, ev_i u2, ev_i u5, ev_i (u7 / 64), ev_i (ev_rem u7 64), ev_i (u9 / 64), ev_i (ev_rem u9 64)] S6 (fun o S7 => ∃ v2_ : Int32, o = .inl (some (ev_i v2_)) ∧ (
                    (v2_ = u6 → (
                      Q (.inl (some (ev_i 1))) S7)) ∧
                    (¬ (v2_ = u6) → (
                      Q (.inl (some (ev_i 0))) S7)))))))))))))) ∧
  (¬ (0 ≤ u9) → (
    ∀ S8 : ev_S, S8 = (ev_up S b1 33 1) → (
      Q (.inl (some (ev_i 1))) S8)))) : ev_E g m_L_promises 7 (B + 1) 167 [some (ev_o 9 b0), some (ev_o 11 b1), some (ev_i u2), none, none, some (ev_i u5), some (ev_i u6), some (ev_i u7), none, some (ev_i u9), none] [] S Q := by
  refine ev_iload (u9) dL_promises_167 rfl ?_
  refine ev_if_ge 177 dL_promises_169 (by decide) (fun c1 => ?_) (fun c1 => ?_)
  · replace hQ := hQ.1 c1
    refine ev_aload_n (ev_o 11 b1) dL_promises_177 rfl rfl ?_
    refine gn_11_26 dL_promises_178 (List.mem_of_getElem? (i := 41) rfl) ?_
    refine ev_iload (u6) dL_promises_181 rfl ?_
    refine ev_iconst (1) dL_promises_183 rfl ?_
    obtain ⟨h1, hQ⟩ := hQ
    refine ev_bastore (n := 64) (by decide) dL_promises_184 h1 rfl ?_
    refine ev_sub hQ (fun S1 hS1 hQ => ?_)
    refine ev_E.goal (pc' := 185) (L' := [some (ev_o 9 b0), some (ev_o 11 b1), some (ev_i u2), none, none, some (ev_i u5), some (ev_i u6), some (ev_i u7), none, some (ev_i u9), none]) (K' := []) (S' := S1) ?_ rfl rfl rfl hS1
    refine ev_aload_n (ev_o 11 b1) dL_promises_185 rfl rfl ?_
    refine gn_11_28 dL_promises_186 (List.mem_of_getElem? (i := 42) rfl) ?_
    refine ev_iload (u6) dL_promises_189 rfl ?_
    refine ev_iload (u7) dL_promises_191 rfl ?_
    refine ev_bipush (64) dL_promises_193 (by decide) ?_
    refine ev_idiv dL_promises_195 (by decide) ?_
    refine ev_iastore dL_promises_196 h1 ?_
    refine ev_sub hQ (fun S2 hS2 hQ => ?_)
    refine ev_E.goal (pc' := 197) (L' := [some (ev_o 9 b0), some (ev_o 11 b1), some (ev_i u2), none, none, some (ev_i u5), some (ev_i u6), some (ev_i u7), none, some (ev_i u9), none]) (K' := []) (S' := S2) ?_ rfl rfl rfl hS2
    refine ev_aload_n (ev_o 11 b1) dL_promises_197 rfl rfl ?_
    refine gn_11_29 dL_promises_198 (List.mem_of_getElem? (i := 43) rfl) ?_
    refine ev_iload (u6) dL_promises_201 rfl ?_
    refine ev_iload (u7) dL_promises_203 rfl ?_
    refine ev_bipush (64) dL_promises_205 (by decide) ?_
    refine ev_irem dL_promises_207 (by decide) ?_
    refine ev_iastore dL_promises_208 h1 ?_
    refine ev_sub hQ (fun S3 hS3 hQ => ?_)
    refine ev_E.goal (pc' := 209) (L' := [some (ev_o 9 b0), some (ev_o 11 b1), some (ev_i u2), none, none, some (ev_i u5), some (ev_i u6), some (ev_i u7), none, some (ev_i u9), none]) (K' := []) (S' := S3) ?_ rfl rfl rfl hS3
    refine ev_aload_n (ev_o 11 b1) dL_promises_209 rfl rfl ?_
    refine gn_11_30 dL_promises_210 (List.mem_of_getElem? (i := 44) rfl) ?_
    refine ev_iload (u6) dL_promises_213 rfl ?_
    refine ev_iload (u9) dL_promises_215 rfl ?_
    refine ev_bipush (64) dL_promises_217 (by decide) ?_
    refine ev_idiv dL_promises_219 (by decide) ?_
    refine ev_iastore dL_promises_220 h1 ?_
    refine ev_sub hQ (fun S4 hS4 hQ => ?_)
    refine ev_E.goal (pc' := 221) (L' := [some (ev_o 9 b0), some (ev_o 11 b1), some (ev_i u2), none, none, some (ev_i u5), some (ev_i u6), some (ev_i u7), none, some (ev_i u9), none]) (K' := []) (S' := S4) ?_ rfl rfl rfl hS4
    refine ev_aload_n (ev_o 11 b1) dL_promises_221 rfl rfl ?_
    refine gn_11_31 dL_promises_222 (List.mem_of_getElem? (i := 45) rfl) ?_
    refine ev_iload (u6) dL_promises_225 rfl ?_
    refine ev_iload (u9) dL_promises_227 rfl ?_
    refine ev_bipush (64) dL_promises_229 (by decide) ?_
    refine ev_irem dL_promises_231 (by decide) ?_
    refine ev_iastore dL_promises_232 h1 ?_
    refine ev_sub hQ (fun S5 hS5 hQ => ?_)
    refine ev_E.goal (pc' := 233) (L' := [some (ev_o 9 b0), some (ev_o 11 b1), some (ev_i u2), none, none, some (ev_i u5), some (ev_i u6), some (ev_i u7), none, some (ev_i u9), none]) (K' := []) (S' := S5) ?_ rfl rfl rfl hS5
    refine ev_aload_n (ev_o 11 b1) dL_promises_233 rfl rfl ?_
    refine ev_iload_n (u2) dL_promises_234 rfl ?_
    refine ev_iload (u5) dL_promises_235 rfl ?_
    refine ev_iconst (1) dL_promises_237 rfl ?_
    refine ev_iload (u6) dL_promises_238 rfl ?_
    refine ev_iload (u9) dL_promises_240 rfl ?_
    refine ev_bipush (64) dL_promises_242 (by decide) ?_
    refine ev_idiv dL_promises_244 (by decide) ?_
    refine ev_iload (u9) dL_promises_245 rfl ?_
    refine ev_bipush (64) dL_promises_247 (by decide) ?_
    refine ev_irem dL_promises_249 (by decide) ?_
    refine ev_cV mv_X11_posts 1 0 11 [ev_i u2, ev_i u5, ev_i 1, ev_i u6, ev_i (u9 / 64), ev_i (ev_rem u9 64)] [] dL_promises_250 kw_1526 rfl (by decide) rfl (by decide) (by omega) (Nat.le_of_ble_eq_true rfl) hQ ?_ rfl
    rintro o S6 ⟨v1_, rfl, hQ⟩
    show ev_E g m_L_promises 7 (B + 1) 253 [some (ev_o 9 b0), some (ev_o 11 b1), some (ev_i u2), none, none, some (ev_i u5), some (ev_i u6), some (ev_i u7), none, some (ev_i u9), none] [ev_i v1_] S6 Q
    refine ev_istore dL_promises_253 (Nat.le_of_ble_eq_true rfl) (ev_hw rfl) ?_
    show ev_E g m_L_promises 7 (B + 1) 255 [some (ev_o 9 b0), some (ev_o 11 b1), some (ev_i u2), none, none, some (ev_i u5), some (ev_i u6), some (ev_i u7), none, some (ev_i u9), some (ev_i v1_)] [] S6 Q
    refine ev_aload_n (ev_o 9 b0) dL_promises_255 rfl rfl ?_
    refine ev_iload_n (u2) dL_promises_256 rfl ?_
    refine ev_iload (u5) dL_promises_257 rfl ?_
    refine ev_iload (u7) dL_promises_259 rfl ?_
    refine ev_bipush (64) dL_promises_261 (by decide) ?_
    refine ev_idiv dL_promises_263 (by decide) ?_
    refine ev_iload (u7) dL_promises_264 rfl ?_
    refine ev_bipush (64) dL_promises_266 (by decide) ?_
    refine ev_irem dL_promises_268 (by decide) ?_
    refine ev_iload (u9) dL_promises_269 rfl ?_
    refine ev_bipush (64) dL_promises_271 (by decide) ?_
    refine ev_idiv dL_promises_273 (by decide) ?_
    refine ev_iload (u9) dL_promises_274 rfl ?_
    refine ev_bipush (64) dL_promises_276 (by decide) ?_
    refine ev_irem dL_promises_278 (by decide) ?_
    refine ev_cV mv_X9_promise 6 1 9 [ev_i u2, ev_i u5, ev_i (u7 / 64), ev_i (ev_rem u7 64), ev_i (u9 / 64), ev_i (ev_rem u9 64)] [] dL_promises_279 kw_1589 rfl (by decide) rfl (by decide) (by omega) (Nat.le_of_ble_eq_true rfl) hQ ?_ rfl
    rintro o S7 ⟨v2_, rfl, hQ⟩
    show ev_E g m_L_promises 7 B 282 [some (ev_o 9 b0), some (ev_o 11 b1), some (ev_i u2), none, none, some (ev_i u5), some (ev_i u6), some (ev_i u7), none, some (ev_i u9), some (ev_i v1_)] [ev_i v2_] S7 Q
    refine ev_iload (u6) dL_promises_282 rfl ?_
    refine ev_icmp_ne 291 dL_promises_284 (by decide) (fun c2 => ?_) (fun c2 => ?_)
    · replace hQ := hQ.2 c2
      refine ev_iconst (0) dL_promises_291 rfl ?_
      exact ev_ireturn .boolean dL_promises_292 rfl rfl hQ
    · replace hQ := hQ.1 c2
      refine ev_iconst (1) dL_promises_287 rfl ?_
      refine ev_goto 292 dL_promises_288 (by decide) ?_
      exact ev_ireturn .boolean dL_promises_292 rfl rfl hQ
  · replace hQ := hQ.2 c1
    refine ev_aload_n (ev_o 11 b1) dL_promises_172 rfl rfl ?_
    refine ev_fV mv_X11_leaves 1 11 [] [] dL_promises_173 kw_1518 rfl (by decide) rfl (by decide) (Nat.le_of_ble_eq_true rfl) (sp_X11_leaves b1) ?_ rfl
    refine ev_sub hQ (fun S8 hS8 hQ => ?_)
    refine ev_E.goal (pc' := 176) (L' := [some (ev_o 9 b0), some (ev_o 11 b1), some (ev_i u2), none, none, some (ev_i u5), some (ev_i u6), some (ev_i u7), none, some (ev_i u9), none]) (K' := [ev_i 1]) (S' := S8) ?_ rfl rfl rfl hS8
    exact ev_ireturn .boolean dL_promises_176 rfl rfl hQ
set_option maxHeartbeats 4000000 in
set_option maxRecDepth 100000 in
theorem sg_L_acts_0 {g : ev_G} {S : ev_S} {Q : ev_O → ev_S → Prop} {B : Nat} (b0 : Nat) (b1 : Nat) (k2 : Nat) (x3 : Int32) (hQ : (¬ ((Int32.ofNat (ev_sl g)) = 0) → ¬ (Int32.ofNat (ev_sl g)) = 0) ∧ (
    (¬ ((Int32.ofNat (ev_sl g)) = 0) → vp_in (ev_rem x3 (Int32.ofNat (ev_sl g))) (ev_sl g)) ∧ (
      (¬ (16 : Int32) = 0) ∧ (
        (¬ ((Int32.ofNat (ev_sl g)) = 0) → vp_in (ev_rem (x3 + 1) (Int32.ofNat (ev_sl g))) (ev_sl g)) ∧ (
          (¬ (10000 : Int32) = 0) ∧ (
            (¬ ((Int32.ofNat (ev_sl g)) = 0) → vp_in (ev_rem (x3 + 2) (Int32.ofNat (ev_sl g))) (ev_sl g)) ∧ (
              (¬ (S.1 b1 3) = 0) ∧ (
                ev_Cv g m_X11_isTurn 3 0 [ev_o 11 b1, ev_i 0] S (fun o S1 => ∃ v1_ : Bool, o = .inl (some (ev_i (if v1_ = true then 1 else 0))) ∧ (
                  (v1_ = true → (
                    ev_E g m_L_acts 8 B 64 [some (ev_o 9 b0), some (ev_o 11 b1), some (ev_x 0 k2), some (ev_i x3), some (ev_i (ev_rem ((f_L_cell g k2 x3) &&& 65535) 16)), some (ev_i (ev_rem ((f_L_cell g k2 (x3 + 1)) &&& 65535) 10000)), some (ev_i (ev_rem ((f_L_cell g k2 (x3 + 2)) &&& 65535) (S.1 b1 3))), some (ev_i 0), none, none, none] [] S1 Q)) ∧
                  (¬ (v1_ = true) → (
                    ev_Cv g m_X11_isTurn 3 0 [ev_o 11 b1, ev_i 1] S1 (fun o S2 => ∃ v2_ : Bool, o = .inl (some (ev_i (if v2_ = true then 1 else 0))) ∧ (
                      (v2_ = true → (
                        ev_E g m_L_acts 8 B 64 [some (ev_o 9 b0), some (ev_o 11 b1), some (ev_x 0 k2), some (ev_i x3), some (ev_i (ev_rem ((f_L_cell g k2 x3) &&& 65535) 16)), some (ev_i (ev_rem ((f_L_cell g k2 (x3 + 1)) &&& 65535) 10000)), some (ev_i (ev_rem ((f_L_cell g k2 (x3 + 2)) &&& 65535) (S.1 b1 3))), some (ev_i 1), none, none, none] [] S2 Q)) ∧
                      (¬ (v2_ = true) → (
                        ev_E g m_L_acts 8 B 64 [some (ev_o 9 b0), some (ev_o 11 b1), some (ev_x 0 k2), some (ev_i x3), some (ev_i (ev_rem ((f_L_cell g k2 x3) &&& 65535) 16)), some (ev_i (ev_rem ((f_L_cell g k2 (x3 + 1)) &&& 65535) 10000)), some (ev_i (ev_rem ((f_L_cell g k2 (x3 + 2)) &&& 65535) (S.1 b1 3))), some (ev_i (ev_rem (ev_rem ((f_L_cell g k2 (x3 + 1)) &&& 65535) 10000) 2)), none, none, none] [] S2 Q)))))))))))))))) : ev_Cv g m_L_acts 8 B [ev_o 9 b0, ev_o 11 b1, ev_x 0 k2, ev_i x3] S Q := by
  refine ev_enter (by decide) rfl rfl (Nat.le_of_ble_eq_true rfl) ?_
  show ev_E g m_L_acts 8 B 0 [some (ev_o 9 b0), some (ev_o 11 b1), some (ev_x 0 k2), some (ev_i x3), none, none, none, none, none, none, none] [] S Q
  refine ev_aload_n (ev_x 0 k2) dL_acts_0 rfl rfl ?_
  refine ev_iload_n (x3) dL_acts_1 rfl ?_
  refine ev_bipush (16) dL_acts_2 (by decide) ?_
  obtain ⟨h1, hQ⟩ := hQ
  obtain ⟨h2, hQ⟩ := hQ
  obtain ⟨h3, hQ⟩ := hQ
  refine ev_fS ms_L_pick 2 [ev_x 0 k2, ev_i x3, ev_i 16] [] dL_acts_4 kw_936 rfl (by decide) (Nat.le_of_ble_eq_true rfl) (sp_L_pick k2 x3 16 h1 h2 h3) ?_ rfl
  refine ev_istore dL_acts_7 (Nat.le_of_ble_eq_true rfl) (ev_hw rfl) ?_
  show ev_E g m_L_acts 8 B 9 [some (ev_o 9 b0), some (ev_o 11 b1), some (ev_x 0 k2), some (ev_i x3), some (ev_i (ev_rem ((f_L_cell g k2 x3) &&& 65535) 16)), none, none, none, none, none, none] [] S Q
  refine ev_aload_n (ev_x 0 k2) dL_acts_9 rfl rfl ?_
  refine ev_iload_n (x3) dL_acts_10 rfl ?_
  refine ev_iconst (1) dL_acts_11 rfl ?_
  refine ev_iadd dL_acts_12 ?_
  refine ev_sipush (10000) dL_acts_13 (by decide) ?_
  obtain ⟨h4, hQ⟩ := hQ
  obtain ⟨h5, hQ⟩ := hQ
  refine ev_fS ms_L_pick 2 [ev_x 0 k2, ev_i (x3 + 1), ev_i 10000] [] dL_acts_16 kw_936 rfl (by decide) (Nat.le_of_ble_eq_true rfl) (sp_L_pick k2 (x3 + 1) 10000 h1 h4 h5) ?_ rfl
  refine ev_istore dL_acts_19 (Nat.le_of_ble_eq_true rfl) (ev_hw rfl) ?_
  show ev_E g m_L_acts 8 B 21 [some (ev_o 9 b0), some (ev_o 11 b1), some (ev_x 0 k2), some (ev_i x3), some (ev_i (ev_rem ((f_L_cell g k2 x3) &&& 65535) 16)), some (ev_i (ev_rem ((f_L_cell g k2 (x3 + 1)) &&& 65535) 10000)), none, none, none, none, none] [] S Q
  refine ev_aload_n (ev_x 0 k2) dL_acts_21 rfl rfl ?_
  refine ev_iload_n (x3) dL_acts_22 rfl ?_
  refine ev_iconst (2) dL_acts_23 rfl ?_
  refine ev_iadd dL_acts_24 ?_
  refine ev_aload_n (ev_o 11 b1) dL_acts_25 rfl rfl ?_
  refine gn_11_3 dL_acts_26 (List.mem_of_getElem? (i := 24) rfl) ?_
  obtain ⟨h6, hQ⟩ := hQ
  obtain ⟨h7, hQ⟩ := hQ
  refine ev_fS ms_L_pick 2 [ev_x 0 k2, ev_i (x3 + 2), ev_i (S.1 b1 3)] [] dL_acts_29 kw_936 rfl (by decide) (Nat.le_of_ble_eq_true rfl) (sp_L_pick k2 (x3 + 2) (S.1 b1 3) h1 h6 h7) ?_ rfl
  refine ev_istore dL_acts_32 (Nat.le_of_ble_eq_true rfl) (ev_hw rfl) ?_
  show ev_E g m_L_acts 8 B 34 [some (ev_o 9 b0), some (ev_o 11 b1), some (ev_x 0 k2), some (ev_i x3), some (ev_i (ev_rem ((f_L_cell g k2 x3) &&& 65535) 16)), some (ev_i (ev_rem ((f_L_cell g k2 (x3 + 1)) &&& 65535) 10000)), some (ev_i (ev_rem ((f_L_cell g k2 (x3 + 2)) &&& 65535) (S.1 b1 3))), none, none, none, none] [] S Q
  refine ev_aload_n (ev_o 11 b1) dL_acts_34 rfl rfl ?_
  refine ev_iconst (0) dL_acts_35 rfl ?_
  refine ev_cV mv_X11_isTurn 3 0 11 [ev_i 0] [] dL_acts_36 kw_1031 rfl (by decide) rfl (by decide) (by omega) (Nat.le_of_ble_eq_true rfl) hQ ?_ rfl
  rintro o S1 ⟨v1_, rfl, hQ⟩
  show ev_E g m_L_acts 8 B 39 [some (ev_o 9 b0), some (ev_o 11 b1), some (ev_x 0 k2), some (ev_i x3), some (ev_i (ev_rem ((f_L_cell g k2 x3) &&& 65535) 16)), some (ev_i (ev_rem ((f_L_cell g k2 (x3 + 1)) &&& 65535) 10000)), some (ev_i (ev_rem ((f_L_cell g k2 (x3 + 2)) &&& 65535) (S.1 b1 3))), none, none, none, none] [ev_i (if v1_ = true then 1 else 0)] S1 Q
  by_cases c1 : v1_ = true
  · rw [if_pos c1]
    replace hQ := hQ.1 c1
    refine ev_if_eq 46 dL_acts_39 (by decide) (fun h9 => absurd h9 (by decide : ¬ ((1 : Int32) = 0))) (fun _ => ?_)
    refine ev_iconst (0) dL_acts_42 rfl ?_
    refine ev_goto 62 dL_acts_43 (by decide) ?_
    refine ev_istore dL_acts_62 (Nat.le_of_ble_eq_true rfl) (ev_hw rfl) ?_
    show ev_E g m_L_acts 8 B 64 [some (ev_o 9 b0), some (ev_o 11 b1), some (ev_x 0 k2), some (ev_i x3), some (ev_i (ev_rem ((f_L_cell g k2 x3) &&& 65535) 16)), some (ev_i (ev_rem ((f_L_cell g k2 (x3 + 1)) &&& 65535) 10000)), some (ev_i (ev_rem ((f_L_cell g k2 (x3 + 2)) &&& 65535) (S.1 b1 3))), some (ev_i 0), none, none, none] [] S1 Q
    exact hQ
  · rw [if_neg c1]
    replace hQ := hQ.2 c1
    refine ev_if_eq 46 dL_acts_39 (by decide) (fun _ => ?_) (fun h9 => absurd (by decide : ((0 : Int32) = 0)) h9)
    refine ev_aload_n (ev_o 11 b1) dL_acts_46 rfl rfl ?_
    refine ev_iconst (1) dL_acts_47 rfl ?_
    refine ev_cV mv_X11_isTurn 3 0 11 [ev_i 1] [] dL_acts_48 kw_1031 rfl (by decide) rfl (by decide) (by omega) (Nat.le_of_ble_eq_true rfl) hQ ?_ rfl
    rintro o S2 ⟨v2_, rfl, hQ⟩
    show ev_E g m_L_acts 8 B 51 [some (ev_o 9 b0), some (ev_o 11 b1), some (ev_x 0 k2), some (ev_i x3), some (ev_i (ev_rem ((f_L_cell g k2 x3) &&& 65535) 16)), some (ev_i (ev_rem ((f_L_cell g k2 (x3 + 1)) &&& 65535) 10000)), some (ev_i (ev_rem ((f_L_cell g k2 (x3 + 2)) &&& 65535) (S.1 b1 3))), none, none, none, none] [ev_i (if v2_ = true then 1 else 0)] S2 Q
    by_cases c2 : v2_ = true
    · rw [if_pos c2]
      replace hQ := hQ.1 c2
      refine ev_if_eq 58 dL_acts_51 (by decide) (fun h9 => absurd h9 (by decide : ¬ ((1 : Int32) = 0))) (fun _ => ?_)
      refine ev_iconst (1) dL_acts_54 rfl ?_
      refine ev_goto 62 dL_acts_55 (by decide) ?_
      refine ev_istore dL_acts_62 (Nat.le_of_ble_eq_true rfl) (ev_hw rfl) ?_
      show ev_E g m_L_acts 8 B 64 [some (ev_o 9 b0), some (ev_o 11 b1), some (ev_x 0 k2), some (ev_i x3), some (ev_i (ev_rem ((f_L_cell g k2 x3) &&& 65535) 16)), some (ev_i (ev_rem ((f_L_cell g k2 (x3 + 1)) &&& 65535) 10000)), some (ev_i (ev_rem ((f_L_cell g k2 (x3 + 2)) &&& 65535) (S.1 b1 3))), some (ev_i 1), none, none, none] [] S2 Q
      exact hQ
    · rw [if_neg c2]
      replace hQ := hQ.2 c2
      refine ev_if_eq 58 dL_acts_51 (by decide) (fun _ => ?_) (fun h9 => absurd (by decide : ((0 : Int32) = 0)) h9)
      refine ev_iload ((ev_rem ((f_L_cell g k2 (x3 + 1)) &&& 65535) 10000)) dL_acts_58 rfl ?_
      refine ev_iconst (2) dL_acts_60 rfl ?_
      refine ev_irem dL_acts_61 (by decide) ?_
      refine ev_istore dL_acts_62 (Nat.le_of_ble_eq_true rfl) (ev_hw rfl) ?_
      show ev_E g m_L_acts 8 B 64 [some (ev_o 9 b0), some (ev_o 11 b1), some (ev_x 0 k2), some (ev_i x3), some (ev_i (ev_rem ((f_L_cell g k2 x3) &&& 65535) 16)), some (ev_i (ev_rem ((f_L_cell g k2 (x3 + 1)) &&& 65535) 10000)), some (ev_i (ev_rem ((f_L_cell g k2 (x3 + 2)) &&& 65535) (S.1 b1 3))), some (ev_i (ev_rem (ev_rem ((f_L_cell g k2 (x3 + 1)) &&& 65535) 10000) 2)), none, none, none] [] S2 Q
      exact hQ
set_option maxHeartbeats 4000000 in
set_option maxRecDepth 100000 in
theorem sg_L_acts_64 {g : ev_G} {S : ev_S} {Q : ev_O → ev_S → Prop} {B : Nat} (b0 : Nat) (b1 : Nat) (k2 : Nat) (u3 : Int32) (u4 : Int32) (u5 : Int32) (u6 : Int32) (u7 : Int32) (hQ : (6 ≤ u4 → (
    (9 ≤ u4 → (
      (u4 = 9 → (
        ((S.1 b1 4) ≤ 0 → (
          ev_E g m_L_acts 8 (B + 81) 233 [some (ev_o 9 b0), some (ev_o 11 b1), none, none, some (ev_i u4), some (ev_i u5), some (ev_i u6), none, none, none, none] [] S Q)) ∧
        (¬ ((S.1 b1 4) ≤ 0) → (
          (80 ≤ (S.1 b1 4) → (
            ev_E g m_L_acts 8 (B + 81) 233 [some (ev_o 9 b0), some (ev_o 11 b1), none, none, some (ev_i u4), some (ev_i u5), some (ev_i u6), none, none, none, none] [] S Q)) ∧
          (¬ (80 ≤ (S.1 b1 4)) → (
            (¬ (S.1 b1 4) = 0) ∧ (
              (vp_in (ev_rem u5 (S.1 b1 4)) 81) ∧ (
                ev_Cv g m_X11_posts 1 0 [ev_o 11 b1, ev_i (S.1 (b1 + 19) (ev_rem u5 (S.1 b1 4)).toNatClampNeg), ev_i u6, ev_i (S.1 (b1 + 29) (ev_rem u5 (S.1 b1 4)).toNatClampNeg), ev_i (S.1 (b1 + 21) (ev_rem u5 (S.1 b1 4)).toNatClampNeg), ev_i (S.1 (b1 + 22) (ev_rem u5 (S.1 b1 4)).toNatClampNeg), ev_i (S.1 (b1 + 23) (ev_rem u5 (S.1 b1 4)).toNatClampNeg)] S (fun o S1 => ∃ v1_ : Int32, o = .inl (some (ev_i v1_)) ∧ (
                  ev_Cv g m_X9_resend 6 1 [ev_o 9 b0, ev_i (ev_rem u5 (S.1 b1 4)), ev_i u6] S1 (fun o S2 => ∃ v2_ : Int32, o = .inl (some (ev_i v2_)) ∧ (
                    (v2_ = v1_ → (
                      Q (.inl (some (ev_i 1))) S2)) ∧
                    (¬ (v2_ = v1_) → (
                      Q (.inl (some (ev_i 0))) S2)))))))))))))) ∧
      (¬ (u4 = 9) → (
        ev_E g m_L_acts 8 (B + 81) 233 [some (ev_o 9 b0), some (ev_o 11 b1), none, none, some (ev_i u4), some (ev_i u5), some (ev_i u6), none, none, none, none] [] S Q)))) ∧
    (¬ (9 ≤ u4) → (
      (u4 = 8 → (
        (¬ ((Int32.ofNat (ev_sl g)) = 0) → ¬ (Int32.ofNat (ev_sl g)) = 0) ∧ (
          (¬ ((Int32.ofNat (ev_sl g)) = 0) → vp_in (ev_rem (u3 + 3) (Int32.ofNat (ev_sl g))) (ev_sl g)) ∧ (
            (¬ (1000 : Int32) = 0) ∧ (
              ev_Cv g m_L_promises 7 81 [ev_o 9 b0, ev_o 11 b1, ev_i u7, ev_i u5, ev_i (ev_rem ((f_L_cell g k2 (u3 + 3)) &&& 65535) 1000), ev_i u6] S (fun o S4 => ∃ v4_ : Bool, o = .inl (some (ev_i (if v4_ = true then 1 else 0))) ∧ (
                (v4_ = true → (
                  Q (.inl (some (ev_i 1))) S4)) ∧
                (¬ (v4_ = true) → (
                  Q (.inl (some (ev_i 0))) S4))))))))) ∧
      (¬ (u4 = 8) → (
        (¬ ((Int32.ofNat (ev_sl g)) = 0) → ¬ (Int32.ofNat (ev_sl g)) = 0) ∧ (
          (¬ ((Int32.ofNat (ev_sl g)) = 0) → vp_in (ev_rem (u3 + 3) (Int32.ofNat (ev_sl g))) (ev_sl g)) ∧ (
            (¬ (1000 : Int32) = 0) ∧ (
              ev_Cv g m_L_promises 7 81 [ev_o 9 b0, ev_o 11 b1, ev_i (1 - u7), ev_i u5, ev_i (ev_rem ((f_L_cell g k2 (u3 + 3)) &&& 65535) 1000), ev_i u6] S (fun o S3 => ∃ v3_ : Bool, o = .inl (some (ev_i (if v3_ = true then 1 else 0))) ∧ (
                (v3_ = true → (
                  Q (.inl (some (ev_i 1))) S3)) ∧
                (¬ (v3_ = true) → (
                  Q (.inl (some (ev_i 0))) S3))))))))))))) ∧
  (¬ (6 ≤ u4) → (
    (u4 = 5 → (
      ev_Cv g m_L_moves 7 1 [ev_o 9 b0, ev_o 11 b1, ev_i (1 - u7), ev_i u5, ev_i u6] S (fun o S6 => ∃ v6_ : Bool, o = .inl (some (ev_i (if v6_ = true then 1 else 0))) ∧ (
        (v6_ = true → (
          Q (.inl (some (ev_i 1))) S6)) ∧
        (¬ (v6_ = true) → (
          Q (.inl (some (ev_i 0))) S6)))))) ∧
    (¬ (u4 = 5) → (
      ev_Cv g m_L_moves 7 1 [ev_o 9 b0, ev_o 11 b1, ev_i u7, ev_i u5, ev_i u6] S (fun o S5 => ∃ v5_ : Bool, o = .inl (some (ev_i (if v5_ = true then 1 else 0))) ∧ (
        (v5_ = true → (
          Q (.inl (some (ev_i 1))) S5)) ∧
        (¬ (v5_ = true) → (
          Q (.inl (some (ev_i 0))) S5))))))))) : ev_E g m_L_acts 8 (B + 81) 64 [some (ev_o 9 b0), some (ev_o 11 b1), some (ev_x 0 k2), some (ev_i u3), some (ev_i u4), some (ev_i u5), some (ev_i u6), some (ev_i u7), none, none, none] [] S Q := by
  refine ev_iload (u4) dL_acts_64 rfl ?_
  refine ev_bipush (6) dL_acts_66 (by decide) ?_
  refine ev_icmp_ge 96 dL_acts_68 (by decide) (fun c1 => ?_) (fun c1 => ?_)
  · replace hQ := hQ.1 c1
    refine ev_iload (u4) dL_acts_96 rfl ?_
    refine ev_bipush (9) dL_acts_98 (by decide) ?_
    refine ev_icmp_ge 139 dL_acts_100 (by decide) (fun c2 => ?_) (fun c2 => ?_)
    · replace hQ := hQ.1 c2
      refine ev_iload (u4) dL_acts_139 rfl ?_
      refine ev_bipush (9) dL_acts_141 (by decide) ?_
      refine ev_icmp_ne 233 dL_acts_143 (by decide) (fun c3 => ?_) (fun c3 => ?_)
      · replace hQ := hQ.2 c3
        refine ev_fgm [true, true, false, false, true, true, true, false, false, false, false] ?_
        exact hQ
      · replace hQ := hQ.1 c3
        refine ev_aload_n (ev_o 11 b1) dL_acts_146 rfl rfl ?_
        refine gn_11_4 dL_acts_147 (List.mem_of_getElem? (i := 25) rfl) ?_
        refine ev_if_le 233 dL_acts_150 (by decide) (fun c4 => ?_) (fun c4 => ?_)
        · replace hQ := hQ.1 c4
          refine ev_fgm [true, true, false, false, true, true, true, false, false, false, false] ?_
          exact hQ
        · replace hQ := hQ.2 c4
          refine ev_aload_n (ev_o 11 b1) dL_acts_153 rfl rfl ?_
          refine gn_11_4 dL_acts_154 (List.mem_of_getElem? (i := 25) rfl) ?_
          refine ev_bipush (80) dL_acts_157 (by decide) ?_
          refine ev_icmp_ge 233 dL_acts_159 (by decide) (fun c5 => ?_) (fun c5 => ?_)
          · replace hQ := hQ.1 c5
            refine ev_fgm [true, true, false, false, true, true, true, false, false, false, false] ?_
            exact hQ
          · replace hQ := hQ.2 c5
            refine ev_iload (u5) dL_acts_162 rfl ?_
            refine ev_aload_n (ev_o 11 b1) dL_acts_164 rfl rfl ?_
            refine gn_11_4 dL_acts_165 (List.mem_of_getElem? (i := 25) rfl) ?_
            obtain ⟨h1, hQ⟩ := hQ
            refine ev_irem dL_acts_168 h1 ?_
            refine ev_istore dL_acts_169 (Nat.le_of_ble_eq_true rfl) (ev_hw rfl) ?_
            show ev_E g m_L_acts 8 (B + 81) 171 [some (ev_o 9 b0), some (ev_o 11 b1), some (ev_x 0 k2), some (ev_i u3), some (ev_i u4), some (ev_i u5), some (ev_i u6), some (ev_i u7), some (ev_i (ev_rem u5 (S.1 b1 4))), none, none] [] S Q
            refine ev_aload_n (ev_o 11 b1) dL_acts_171 rfl rfl ?_
            refine ev_aload_n (ev_o 11 b1) dL_acts_172 rfl rfl ?_
            refine gn_11_15 dL_acts_173 (List.mem_of_getElem? (i := 35) rfl) ?_
            refine ev_iload ((ev_rem u5 (S.1 b1 4))) dL_acts_176 rfl ?_
            obtain ⟨h2, hQ⟩ := hQ
            refine ev_iaload dL_acts_178 h2 ?_
            refine ev_iload (u6) dL_acts_179 rfl ?_
            refine ev_aload_n (ev_o 11 b1) dL_acts_181 rfl rfl ?_
            refine gn_11_25 dL_acts_182 (List.mem_of_getElem? (i := 40) rfl) ?_
            refine ev_iload ((ev_rem u5 (S.1 b1 4))) dL_acts_185 rfl ?_
            refine ev_baload (n := 81) (by decide) dL_acts_187 h2 ?_
            refine ev_aload_n (ev_o 11 b1) dL_acts_188 rfl rfl ?_
            refine gn_11_17 dL_acts_189 (List.mem_of_getElem? (i := 36) rfl) ?_
            refine ev_iload ((ev_rem u5 (S.1 b1 4))) dL_acts_192 rfl ?_
            refine ev_iaload dL_acts_194 h2 ?_
            refine ev_aload_n (ev_o 11 b1) dL_acts_195 rfl rfl ?_
            refine gn_11_18 dL_acts_196 (List.mem_of_getElem? (i := 37) rfl) ?_
            refine ev_iload ((ev_rem u5 (S.1 b1 4))) dL_acts_199 rfl ?_
            refine ev_iaload dL_acts_201 h2 ?_
            refine ev_aload_n (ev_o 11 b1) dL_acts_202 rfl rfl ?_
            refine gn_11_19 dL_acts_203 (List.mem_of_getElem? (i := 38) rfl) ?_
            refine ev_iload ((ev_rem u5 (S.1 b1 4))) dL_acts_206 rfl ?_
            refine ev_iaload dL_acts_208 h2 ?_
            refine ev_cV mv_X11_posts 1 0 11 [ev_i (S.1 (b1 + 19) (ev_rem u5 (S.1 b1 4)).toNatClampNeg), ev_i u6, ev_i (S.1 (b1 + 29) (ev_rem u5 (S.1 b1 4)).toNatClampNeg), ev_i (S.1 (b1 + 21) (ev_rem u5 (S.1 b1 4)).toNatClampNeg), ev_i (S.1 (b1 + 22) (ev_rem u5 (S.1 b1 4)).toNatClampNeg), ev_i (S.1 (b1 + 23) (ev_rem u5 (S.1 b1 4)).toNatClampNeg)] [] dL_acts_209 kw_1526 rfl (by decide) rfl (by decide) (by omega) (Nat.le_of_ble_eq_true rfl) hQ ?_ rfl
            rintro o S1 ⟨v1_, rfl, hQ⟩
            show ev_E g m_L_acts 8 (B + 81) 212 [some (ev_o 9 b0), some (ev_o 11 b1), some (ev_x 0 k2), some (ev_i u3), some (ev_i u4), some (ev_i u5), some (ev_i u6), some (ev_i u7), some (ev_i (ev_rem u5 (S.1 b1 4))), none, none] [ev_i v1_] S1 Q
            refine ev_istore dL_acts_212 (Nat.le_of_ble_eq_true rfl) (ev_hw rfl) ?_
            show ev_E g m_L_acts 8 (B + 81) 214 [some (ev_o 9 b0), some (ev_o 11 b1), some (ev_x 0 k2), some (ev_i u3), some (ev_i u4), some (ev_i u5), some (ev_i u6), some (ev_i u7), some (ev_i (ev_rem u5 (S.1 b1 4))), some (ev_i v1_), none] [] S1 Q
            refine ev_aload_n (ev_o 9 b0) dL_acts_214 rfl rfl ?_
            refine ev_iload ((ev_rem u5 (S.1 b1 4))) dL_acts_215 rfl ?_
            refine ev_iload (u6) dL_acts_217 rfl ?_
            refine ev_cV mv_X9_resend 6 1 9 [ev_i (ev_rem u5 (S.1 b1 4)), ev_i u6] [] dL_acts_219 kw_1607 rfl (by decide) rfl (by decide) (by omega) (Nat.le_of_ble_eq_true rfl) hQ ?_ rfl
            rintro o S2 ⟨v2_, rfl, hQ⟩
            show ev_E g m_L_acts 8 (B + 80) 222 [some (ev_o 9 b0), some (ev_o 11 b1), some (ev_x 0 k2), some (ev_i u3), some (ev_i u4), some (ev_i u5), some (ev_i u6), some (ev_i u7), some (ev_i (ev_rem u5 (S.1 b1 4))), some (ev_i v1_), none] [ev_i v2_] S2 Q
            refine ev_iload (v1_) dL_acts_222 rfl ?_
            refine ev_icmp_ne 231 dL_acts_224 (by decide) (fun c6 => ?_) (fun c6 => ?_)
            · replace hQ := hQ.2 c6
              refine ev_iconst (0) dL_acts_231 rfl ?_
              exact ev_ireturn .boolean dL_acts_232 rfl rfl hQ
            · replace hQ := hQ.1 c6
              refine ev_iconst (1) dL_acts_227 rfl ?_
              refine ev_goto 232 dL_acts_228 (by decide) ?_
              exact ev_ireturn .boolean dL_acts_232 rfl rfl hQ
    · replace hQ := hQ.2 c2
      refine ev_aload_n (ev_o 9 b0) dL_acts_103 rfl rfl ?_
      refine ev_aload_n (ev_o 11 b1) dL_acts_104 rfl rfl ?_
      refine ev_iload (u4) dL_acts_105 rfl ?_
      refine ev_bipush (8) dL_acts_107 (by decide) ?_
      refine ev_icmp_ne 117 dL_acts_109 (by decide) (fun c7 => ?_) (fun c7 => ?_)
      · replace hQ := hQ.2 c7
        refine ev_iconst (1) dL_acts_117 rfl ?_
        refine ev_iload (u7) dL_acts_118 rfl ?_
        refine ev_isub dL_acts_120 ?_
        refine ev_iload (u5) dL_acts_121 rfl ?_
        refine ev_aload_n (ev_x 0 k2) dL_acts_123 rfl rfl ?_
        refine ev_iload_n (u3) dL_acts_124 rfl ?_
        refine ev_iconst (3) dL_acts_125 rfl ?_
        refine ev_iadd dL_acts_126 ?_
        refine ev_sipush (1000) dL_acts_127 (by decide) ?_
        obtain ⟨h3, hQ⟩ := hQ
        obtain ⟨h4, hQ⟩ := hQ
        obtain ⟨h5, hQ⟩ := hQ
        refine ev_fS ms_L_pick 2 [ev_x 0 k2, ev_i (u3 + 3), ev_i 1000] [ev_i u5, ev_i (1 - u7), ev_o 11 b1, ev_o 9 b0] dL_acts_130 kw_936 rfl (by decide) (Nat.le_of_ble_eq_true rfl) (sp_L_pick k2 (u3 + 3) 1000 h3 h4 h5) ?_ rfl
        refine ev_iload (u6) dL_acts_133 rfl ?_
        refine ev_cS ms_L_promises 7 81 [ev_o 9 b0, ev_o 11 b1, ev_i (1 - u7), ev_i u5, ev_i (ev_rem ((f_L_cell g k2 (u3 + 3)) &&& 65535) 1000), ev_i u6] [] dL_acts_135 kw_1583 rfl (by decide) (by omega) (Nat.le_of_ble_eq_true rfl) hQ ?_ rfl
        rintro o S3 ⟨v3_, rfl, hQ⟩
        show ev_E g m_L_acts 8 B 138 [some (ev_o 9 b0), some (ev_o 11 b1), some (ev_x 0 k2), some (ev_i u3), some (ev_i u4), some (ev_i u5), some (ev_i u6), some (ev_i u7), none, none, none] [ev_i (if v3_ = true then 1 else 0)] S3 Q
        by_cases c8 : v3_ = true
        · rw [if_pos c8]
          replace hQ := hQ.1 c8
          exact ev_ireturn .boolean dL_acts_138 rfl rfl hQ
        · rw [if_neg c8]
          replace hQ := hQ.2 c8
          exact ev_ireturn .boolean dL_acts_138 rfl rfl hQ
      · replace hQ := hQ.1 c7
        refine ev_iload (u7) dL_acts_112 rfl ?_
        refine ev_goto 121 dL_acts_114 (by decide) ?_
        refine ev_iload (u5) dL_acts_121 rfl ?_
        refine ev_aload_n (ev_x 0 k2) dL_acts_123 rfl rfl ?_
        refine ev_iload_n (u3) dL_acts_124 rfl ?_
        refine ev_iconst (3) dL_acts_125 rfl ?_
        refine ev_iadd dL_acts_126 ?_
        refine ev_sipush (1000) dL_acts_127 (by decide) ?_
        obtain ⟨h6, hQ⟩ := hQ
        obtain ⟨h7, hQ⟩ := hQ
        obtain ⟨h8, hQ⟩ := hQ
        refine ev_fS ms_L_pick 2 [ev_x 0 k2, ev_i (u3 + 3), ev_i 1000] [ev_i u5, ev_i u7, ev_o 11 b1, ev_o 9 b0] dL_acts_130 kw_936 rfl (by decide) (Nat.le_of_ble_eq_true rfl) (sp_L_pick k2 (u3 + 3) 1000 h6 h7 h8) ?_ rfl
        refine ev_iload (u6) dL_acts_133 rfl ?_
        refine ev_cS ms_L_promises 7 81 [ev_o 9 b0, ev_o 11 b1, ev_i u7, ev_i u5, ev_i (ev_rem ((f_L_cell g k2 (u3 + 3)) &&& 65535) 1000), ev_i u6] [] dL_acts_135 kw_1583 rfl (by decide) (by omega) (Nat.le_of_ble_eq_true rfl) hQ ?_ rfl
        rintro o S4 ⟨v4_, rfl, hQ⟩
        show ev_E g m_L_acts 8 B 138 [some (ev_o 9 b0), some (ev_o 11 b1), some (ev_x 0 k2), some (ev_i u3), some (ev_i u4), some (ev_i u5), some (ev_i u6), some (ev_i u7), none, none, none] [ev_i (if v4_ = true then 1 else 0)] S4 Q
        by_cases c9 : v4_ = true
        · rw [if_pos c9]
          replace hQ := hQ.1 c9
          exact ev_ireturn .boolean dL_acts_138 rfl rfl hQ
        · rw [if_neg c9]
          replace hQ := hQ.2 c9
          exact ev_ireturn .boolean dL_acts_138 rfl rfl hQ
  · replace hQ := hQ.2 c1
    refine ev_aload_n (ev_o 9 b0) dL_acts_71 rfl rfl ?_
    refine ev_aload_n (ev_o 11 b1) dL_acts_72 rfl rfl ?_
    refine ev_iload (u4) dL_acts_73 rfl ?_
    refine ev_iconst (5) dL_acts_75 rfl ?_
    refine ev_icmp_ne 86 dL_acts_76 (by decide) (fun c10 => ?_) (fun c10 => ?_)
    · replace hQ := hQ.2 c10
      refine ev_iload (u7) dL_acts_86 rfl ?_
      refine ev_iload (u5) dL_acts_88 rfl ?_
      refine ev_iload (u6) dL_acts_90 rfl ?_
      refine ev_cS ms_L_moves 7 1 [ev_o 9 b0, ev_o 11 b1, ev_i u7, ev_i u5, ev_i u6] [] dL_acts_92 kw_1515 rfl (by decide) (by omega) (Nat.le_of_ble_eq_true rfl) hQ ?_ rfl
      rintro o S5 ⟨v5_, rfl, hQ⟩
      show ev_E g m_L_acts 8 (B + 80) 95 [some (ev_o 9 b0), some (ev_o 11 b1), some (ev_x 0 k2), some (ev_i u3), some (ev_i u4), some (ev_i u5), some (ev_i u6), some (ev_i u7), none, none, none] [ev_i (if v5_ = true then 1 else 0)] S5 Q
      by_cases c11 : v5_ = true
      · rw [if_pos c11]
        replace hQ := hQ.1 c11
        exact ev_ireturn .boolean dL_acts_95 rfl rfl hQ
      · rw [if_neg c11]
        replace hQ := hQ.2 c11
        exact ev_ireturn .boolean dL_acts_95 rfl rfl hQ
    · replace hQ := hQ.1 c10
      refine ev_iconst (1) dL_acts_79 rfl ?_
      refine ev_iload (u7) dL_acts_80 rfl ?_
      refine ev_isub dL_acts_82 ?_
      refine ev_goto 88 dL_acts_83 (by decide) ?_
      refine ev_iload (u5) dL_acts_88 rfl ?_
      refine ev_iload (u6) dL_acts_90 rfl ?_
      refine ev_cS ms_L_moves 7 1 [ev_o 9 b0, ev_o 11 b1, ev_i (1 - u7), ev_i u5, ev_i u6] [] dL_acts_92 kw_1515 rfl (by decide) (by omega) (Nat.le_of_ble_eq_true rfl) hQ ?_ rfl
      rintro o S6 ⟨v6_, rfl, hQ⟩
      show ev_E g m_L_acts 8 (B + 80) 95 [some (ev_o 9 b0), some (ev_o 11 b1), some (ev_x 0 k2), some (ev_i u3), some (ev_i u4), some (ev_i u5), some (ev_i u6), some (ev_i u7), none, none, none] [ev_i (if v6_ = true then 1 else 0)] S6 Q
      by_cases c12 : v6_ = true
      · rw [if_pos c12]
        replace hQ := hQ.1 c12
        exact ev_ireturn .boolean dL_acts_95 rfl rfl hQ
      · rw [if_neg c12]
        replace hQ := hQ.2 c12
        exact ev_ireturn .boolean dL_acts_95 rfl rfl hQ
set_option maxHeartbeats 4000000 in
set_option maxRecDepth 100000 in
theorem sg_L_acts_233 {g : ev_G} {S : ev_S} {Q : ev_O → ev_S → Prop} {B : Nat} (b0 : Nat) (b1 : Nat) (k2 : Nat) (u4 : Int32) (u5 : Int32) (u6 : Int32) (hQ : (u4 = 10 → (
    (vp_in ((2 * u6) + (ev_rem u5 2)) 8) ∧ (
      ((S.1 (b1 + 17) ((2 * u6) + (ev_rem u5 2)).toNatClampNeg) ≤ 8 → (
        ∀ S1 : ev_S, S1 = (ev_up S (b1 + 17) ((2 * u6) + (ev_rem u5 2)).toNatClampNeg ((S.1 (b1 + 17) ((2 * u6) + (ev_rem u5 2)).toNatClampNeg) + 1)) → (
          ∀ S2 : ev_S, S2 = (ev_up S1 b1 10 ((S.1 b1 10) + 1)) → (
            ev_Cv g m_X9_addMule 6 1 [ev_o 9 b0, ev_i u6, ev_i (ev_rem u5 2)] S2 (fun o S3 => ∃ v1_ : Int32, o = .inl (some (ev_i v1_)) ∧ (
              (v1_ = (S3.1 (b1 + 17) ((2 * u6) + (ev_rem u5 2)).toNatClampNeg) → (
                Q (.inl (some (ev_i 1))) S3)) ∧
              (¬ (v1_ = (S3.1 (b1 + 17) ((2 * u6) + (ev_rem u5 2)).toNatClampNeg)) → (
                Q (.inl (some (ev_i 0))) S3)))))))) ∧
      (¬ ((S.1 (b1 + 17) ((2 * u6) + (ev_rem u5 2)).toNatClampNeg) ≤ 8) → (
        ∀ S4 : ev_S, S4 = (ev_up S b1 33 1) → (
          Q (.inl (some (ev_i 1))) S4)))))) ∧
  (¬ (u4 = 10) → (
    (u4 = 11 → (
      ((ev_rem u5 3) = 0 → (
        ev_E g m_L_acts 8 (B + 1) 351 [some (ev_o 9 b0), some (ev_o 11 b1), none, none, none, some (ev_i u5), some (ev_i u6), none, some (ev_i (ev_rem ((S.1 b1 2) / 30) 12)), none, none] [] S Q)) ∧
      (¬ ((ev_rem u5 3) = 0) → (
        ev_E g m_L_acts 8 (B + 1) 351 [some (ev_o 9 b0), some (ev_o 11 b1), none, none, none, some (ev_i u5), some (ev_i u6), none, some (ev_i (ev_rem u5 12)), none, none] [] S Q)))) ∧
    (¬ (u4 = 11) → (
      (u4 = 12 → (
        ev_E g m_L_acts 8 (B + 1) 446 [some (ev_o 9 b0), some (ev_o 11 b1), none, none, none, none, none, none, some (ev_i (S.1 b1 8)), some (ev_i (1 + (ev_rem u5 60))), none] [] S Q)) ∧
      (¬ (u4 = 12) → (
        ev_E g m_L_acts 8 (B + 1) 446 [some (ev_o 9 b0), some (ev_o 11 b1), none, none, none, none, none, none, some (ev_i (S.1 b1 8)), some (ev_i (1 + (ev_rem u5 6))), none] [] S Q))))))) : ev_E g m_L_acts 8 (B + 1) 233 [some (ev_o 9 b0), some (ev_o 11 b1), none, none, some (ev_i u4), some (ev_i u5), some (ev_i u6), none, none, none, none] [] S Q := by
  refine ev_iload (u4) dL_acts_233 rfl ?_
  refine ev_bipush (10) dL_acts_235 (by decide) ?_
  refine ev_icmp_ne 323 dL_acts_237 (by decide) (fun c1 => ?_) (fun c1 => ?_)
  · replace hQ := hQ.2 c1
    refine ev_iload (u4) dL_acts_323 rfl ?_
    refine ev_bipush (11) dL_acts_325 (by decide) ?_
    refine ev_icmp_ne 414 dL_acts_327 (by decide) (fun c2 => ?_) (fun c2 => ?_)
    · replace hQ := hQ.2 c2
      refine ev_aload_n (ev_o 11 b1) dL_acts_414 rfl rfl ?_
      refine gn_11_8 dL_acts_415 (List.mem_of_getElem? (i := 28) rfl) ?_
      refine ev_istore dL_acts_418 (Nat.le_of_ble_eq_true rfl) (ev_hw rfl) ?_
      show ev_E g m_L_acts 8 (B + 1) 420 [some (ev_o 9 b0), some (ev_o 11 b1), none, none, some (ev_i u4), some (ev_i u5), some (ev_i u6), none, some (ev_i (S.1 b1 8)), none, none] [] S Q
      refine ev_iload (u4) dL_acts_420 rfl ?_
      refine ev_bipush (12) dL_acts_422 (by decide) ?_
      refine ev_icmp_ne 437 dL_acts_424 (by decide) (fun c3 => ?_) (fun c3 => ?_)
      · replace hQ := hQ.2 c3
        refine ev_iconst (1) dL_acts_437 rfl ?_
        refine ev_iload (u5) dL_acts_438 rfl ?_
        refine ev_bipush (6) dL_acts_440 (by decide) ?_
        refine ev_irem dL_acts_442 (by decide) ?_
        refine ev_iadd dL_acts_443 ?_
        refine ev_istore dL_acts_444 (Nat.le_of_ble_eq_true rfl) (ev_hw rfl) ?_
        show ev_E g m_L_acts 8 (B + 1) 446 [some (ev_o 9 b0), some (ev_o 11 b1), none, none, some (ev_i u4), some (ev_i u5), some (ev_i u6), none, some (ev_i (S.1 b1 8)), some (ev_i (1 + (ev_rem u5 6))), none] [] S Q
        refine ev_fgm [true, true, false, false, false, false, false, false, true, true, false] ?_
        exact hQ
      · replace hQ := hQ.1 c3
        refine ev_iconst (1) dL_acts_427 rfl ?_
        refine ev_iload (u5) dL_acts_428 rfl ?_
        refine ev_bipush (60) dL_acts_430 (by decide) ?_
        refine ev_irem dL_acts_432 (by decide) ?_
        refine ev_iadd dL_acts_433 ?_
        refine ev_goto 444 dL_acts_434 (by decide) ?_
        refine ev_istore dL_acts_444 (Nat.le_of_ble_eq_true rfl) (ev_hw rfl) ?_
        show ev_E g m_L_acts 8 (B + 1) 446 [some (ev_o 9 b0), some (ev_o 11 b1), none, none, some (ev_i u4), some (ev_i u5), some (ev_i u6), none, some (ev_i (S.1 b1 8)), some (ev_i (1 + (ev_rem u5 60))), none] [] S Q
        refine ev_fgm [true, true, false, false, false, false, false, false, true, true, false] ?_
        exact hQ
    · replace hQ := hQ.1 c2
      refine ev_iload (u5) dL_acts_330 rfl ?_
      refine ev_iconst (3) dL_acts_332 rfl ?_
      refine ev_irem dL_acts_333 (by decide) ?_
      refine ev_if_ne 344 dL_acts_334 (by decide) (fun c4 => ?_) (fun c4 => ?_)
      · replace hQ := hQ.2 c4
        refine ev_iload (u5) dL_acts_344 rfl ?_
        refine ev_bipush (12) dL_acts_346 (by decide) ?_
        refine ev_irem dL_acts_348 (by decide) ?_
        refine ev_istore dL_acts_349 (Nat.le_of_ble_eq_true rfl) (ev_hw rfl) ?_
        show ev_E g m_L_acts 8 (B + 1) 351 [some (ev_o 9 b0), some (ev_o 11 b1), none, none, some (ev_i u4), some (ev_i u5), some (ev_i u6), none, some (ev_i (ev_rem u5 12)), none, none] [] S Q
        refine ev_fgm [true, true, false, false, false, true, true, false, true, false, false] ?_
        exact hQ
      · replace hQ := hQ.1 c4
        refine ev_aload_n (ev_o 11 b1) dL_acts_337 rfl rfl ?_
        refine ev_fV mv_X11_month 1 11 [] [] dL_acts_338 kw_1256 rfl (by decide) rfl (by decide) (Nat.le_of_ble_eq_true rfl) (sp_X11_month b1) ?_ rfl
        refine ev_goto 349 dL_acts_341 (by decide) ?_
        refine ev_istore dL_acts_349 (Nat.le_of_ble_eq_true rfl) (ev_hw rfl) ?_
        show ev_E g m_L_acts 8 (B + 1) 351 [some (ev_o 9 b0), some (ev_o 11 b1), none, none, some (ev_i u4), some (ev_i u5), some (ev_i u6), none, some (ev_i (ev_rem ((S.1 b1 2) / 30) 12)), none, none] [] S Q
        refine ev_fgm [true, true, false, false, false, true, true, false, true, false, false] ?_
        exact hQ
  · replace hQ := hQ.1 c1
    refine ev_iload (u5) dL_acts_240 rfl ?_
    refine ev_iconst (2) dL_acts_242 rfl ?_
    refine ev_irem dL_acts_243 (by decide) ?_
    refine ev_istore dL_acts_244 (Nat.le_of_ble_eq_true rfl) (ev_hw rfl) ?_
    show ev_E g m_L_acts 8 (B + 1) 246 [some (ev_o 9 b0), some (ev_o 11 b1), none, none, some (ev_i u4), some (ev_i u5), some (ev_i u6), none, some (ev_i (ev_rem u5 2)), none, none] [] S Q
    refine ev_aload_n (ev_o 11 b1) dL_acts_246 rfl rfl ?_
    refine gn_11_13 dL_acts_247 (List.mem_of_getElem? (i := 33) rfl) ?_
    refine ev_iconst (2) dL_acts_250 rfl ?_
    refine ev_iload (u6) dL_acts_251 rfl ?_
    refine ev_imul dL_acts_253 ?_
    refine ev_iload ((ev_rem u5 2)) dL_acts_254 rfl ?_
    refine ev_iadd dL_acts_256 ?_
    obtain ⟨h1, hQ⟩ := hQ
    refine ev_iaload dL_acts_257 h1 ?_
    refine ev_bipush (8) dL_acts_258 (by decide) ?_
    refine ev_icmp_le 268 dL_acts_260 (by decide) (fun c5 => ?_) (fun c5 => ?_)
    · replace hQ := hQ.1 c5
      refine ev_aload_n (ev_o 11 b1) dL_acts_268 rfl rfl ?_
      refine gn_11_13 dL_acts_269 (List.mem_of_getElem? (i := 33) rfl) ?_
      refine ev_iconst (2) dL_acts_272 rfl ?_
      refine ev_iload (u6) dL_acts_273 rfl ?_
      refine ev_imul dL_acts_275 ?_
      refine ev_iload ((ev_rem u5 2)) dL_acts_276 rfl ?_
      refine ev_iadd dL_acts_278 ?_
      refine ev_dup2 dL_acts_279 rfl rfl ?_
      refine ev_iaload dL_acts_280 h1 ?_
      refine ev_iconst (1) dL_acts_281 rfl ?_
      refine ev_iadd dL_acts_282 ?_
      refine ev_iastore dL_acts_283 h1 ?_
      refine ev_sub hQ (fun S1 hS1 hQ => ?_)
      refine ev_E.goal (pc' := 284) (L' := [some (ev_o 9 b0), some (ev_o 11 b1), none, none, some (ev_i u4), some (ev_i u5), some (ev_i u6), none, some (ev_i (ev_rem u5 2)), none, none]) (K' := []) (S' := S1) ?_ rfl rfl rfl hS1
      refine ev_aload_n (ev_o 11 b1) dL_acts_284 rfl rfl ?_
      refine ev_dup dL_acts_285 rfl ?_
      refine gn_11_10 dL_acts_286 (List.mem_of_getElem? (i := 30) rfl) ?_
      refine ev_ke (j_rk hS1 (Or.inl (by omega))) ?_
      refine ev_iconst (1) dL_acts_289 rfl ?_
      refine ev_iadd dL_acts_290 ?_
      refine pn_11_10 dL_acts_291 (List.mem_of_getElem? (i := 30) rfl) ?_
      refine ev_sub hQ (fun S2 hS2 hQ => ?_)
      refine ev_E.goal (pc' := 294) (L' := [some (ev_o 9 b0), some (ev_o 11 b1), none, none, some (ev_i u4), some (ev_i u5), some (ev_i u6), none, some (ev_i (ev_rem u5 2)), none, none]) (K' := []) (S' := S2) ?_ rfl rfl rfl hS2
      refine ev_aload_n (ev_o 9 b0) dL_acts_294 rfl rfl ?_
      refine ev_iload (u6) dL_acts_295 rfl ?_
      refine ev_iload ((ev_rem u5 2)) dL_acts_297 rfl ?_
      refine ev_cV mv_X9_addMule 6 1 9 [ev_i u6, ev_i (ev_rem u5 2)] [] dL_acts_299 kw_1620 rfl (by decide) rfl (by decide) (by omega) (Nat.le_of_ble_eq_true rfl) hQ ?_ rfl
      rintro o S3 ⟨v1_, rfl, hQ⟩
      show ev_E g m_L_acts 8 B 302 [some (ev_o 9 b0), some (ev_o 11 b1), none, none, some (ev_i u4), some (ev_i u5), some (ev_i u6), none, some (ev_i (ev_rem u5 2)), none, none] [ev_i v1_] S3 Q
      refine ev_aload_n (ev_o 11 b1) dL_acts_302 rfl rfl ?_
      refine gn_11_13 dL_acts_303 (List.mem_of_getElem? (i := 33) rfl) ?_
      refine ev_iconst (2) dL_acts_306 rfl ?_
      refine ev_iload (u6) dL_acts_307 rfl ?_
      refine ev_imul dL_acts_309 ?_
      refine ev_iload ((ev_rem u5 2)) dL_acts_310 rfl ?_
      refine ev_iadd dL_acts_312 ?_
      refine ev_iaload dL_acts_313 h1 ?_
      refine ev_icmp_ne 321 dL_acts_314 (by decide) (fun c6 => ?_) (fun c6 => ?_)
      · replace hQ := hQ.2 c6
        refine ev_iconst (0) dL_acts_321 rfl ?_
        exact ev_ireturn .boolean dL_acts_322 rfl rfl hQ
      · replace hQ := hQ.1 c6
        refine ev_iconst (1) dL_acts_317 rfl ?_
        refine ev_goto 322 dL_acts_318 (by decide) ?_
        exact ev_ireturn .boolean dL_acts_322 rfl rfl hQ
    · replace hQ := hQ.2 c5
      refine ev_aload_n (ev_o 11 b1) dL_acts_263 rfl rfl ?_
      refine ev_fV mv_X11_leaves 1 11 [] [] dL_acts_264 kw_1518 rfl (by decide) rfl (by decide) (Nat.le_of_ble_eq_true rfl) (sp_X11_leaves b1) ?_ rfl
      refine ev_sub hQ (fun S4 hS4 hQ => ?_)
      refine ev_E.goal (pc' := 267) (L' := [some (ev_o 9 b0), some (ev_o 11 b1), none, none, some (ev_i u4), some (ev_i u5), some (ev_i u6), none, some (ev_i (ev_rem u5 2)), none, none]) (K' := [ev_i 1]) (S' := S4) ?_ rfl rfl rfl hS4
      exact ev_ireturn .boolean dL_acts_267 rfl rfl hQ
set_option maxHeartbeats 4000000 in
set_option maxRecDepth 100000 in
theorem sg_L_acts_446 {g : ev_G} {S : ev_S} {Q : ev_O → ev_S → Prop} {B : Nat} (b0 : Nat) (b1 : Nat) (k2 : Nat) (u8 : Int32) (u9 : Int32) (hQ : ev_E g m_L_acts 8 B 449 [some (ev_o 9 b0), some (ev_o 11 b1), none, none, none, none, none, none, some (ev_i u8), some (ev_i u9), some (ev_i 0)] [] S Q) : ev_E g m_L_acts 8 B 446 [some (ev_o 9 b0), some (ev_o 11 b1), none, none, none, none, none, none, some (ev_i u8), some (ev_i u9), none] [] S Q := by
  refine ev_iconst (0) dL_acts_446 rfl ?_
  refine ev_istore dL_acts_447 (Nat.le_of_ble_eq_true rfl) (ev_hw rfl) ?_
  show ev_E g m_L_acts 8 B 449 [some (ev_o 9 b0), some (ev_o 11 b1), none, none, none, none, none, none, some (ev_i u8), some (ev_i u9), some (ev_i 0)] [] S Q
  exact hQ
set_option maxHeartbeats 4000000 in
set_option maxRecDepth 100000 in
theorem sg_L_acts_351 {g : ev_G} {S : ev_S} {Q : ev_O → ev_S → Prop} {B : Nat} (b0 : Nat) (b1 : Nat) (k2 : Nat) (u5 : Int32) (u6 : Int32) (u8 : Int32) (hQ : (vp_in ((12 * u6) + u8) 48) ∧ (
    ∀ S1 : ev_S, S1 = (ev_up S (b1 + 18) ((12 * u6) + u8).toNatClampNeg (ev_rem (u5 / 12) 10)) → (
      ev_Cv g m_X9_setSnow 6 1 [ev_o 9 b0, ev_i u6, ev_i u8, ev_i (ev_rem (u5 / 12) 10)] S1 (fun o S2 => ∃ v1_ : Int32, o = .inl (some (ev_i v1_)) ∧ (
        (v1_ = (S.1 (b1 + 18) ((12 * u6) + u8).toNatClampNeg) → (
          Q (.inl (some (ev_i 1))) S2)) ∧
        (¬ (v1_ = (S.1 (b1 + 18) ((12 * u6) + u8).toNatClampNeg)) → (
          Q (.inl (some (ev_i 0))) S2))))))) : ev_E g m_L_acts 8 (B + 1) 351 [some (ev_o 9 b0), some (ev_o 11 b1), none, none, none, some (ev_i u5), some (ev_i u6), none, some (ev_i u8), none, none] [] S Q := by
  refine ev_aload_n (ev_o 11 b1) dL_acts_351 rfl rfl ?_
  refine gn_11_14 dL_acts_352 (List.mem_of_getElem? (i := 34) rfl) ?_
  refine ev_bipush (12) dL_acts_355 (by decide) ?_
  refine ev_iload (u6) dL_acts_357 rfl ?_
  refine ev_imul dL_acts_359 ?_
  refine ev_iload (u8) dL_acts_360 rfl ?_
  refine ev_iadd dL_acts_362 ?_
  obtain ⟨h1, hQ⟩ := hQ
  refine ev_iaload dL_acts_363 h1 ?_
  refine ev_istore dL_acts_364 (Nat.le_of_ble_eq_true rfl) (ev_hw rfl) ?_
  show ev_E g m_L_acts 8 (B + 1) 366 [some (ev_o 9 b0), some (ev_o 11 b1), none, none, none, some (ev_i u5), some (ev_i u6), none, some (ev_i u8), some (ev_i (S.1 (b1 + 18) ((12 * u6) + u8).toNatClampNeg)), none] [] S Q
  refine ev_aload_n (ev_o 11 b1) dL_acts_366 rfl rfl ?_
  refine gn_11_14 dL_acts_367 (List.mem_of_getElem? (i := 34) rfl) ?_
  refine ev_bipush (12) dL_acts_370 (by decide) ?_
  refine ev_iload (u6) dL_acts_372 rfl ?_
  refine ev_imul dL_acts_374 ?_
  refine ev_iload (u8) dL_acts_375 rfl ?_
  refine ev_iadd dL_acts_377 ?_
  refine ev_iload (u5) dL_acts_378 rfl ?_
  refine ev_bipush (12) dL_acts_380 (by decide) ?_
  refine ev_idiv dL_acts_382 (by decide) ?_
  refine ev_bipush (10) dL_acts_383 (by decide) ?_
  refine ev_irem dL_acts_385 (by decide) ?_
  refine ev_iastore dL_acts_386 h1 ?_
  refine ev_sub hQ (fun S1 hS1 hQ => ?_)
  refine ev_E.goal (pc' := 387) (L' := [some (ev_o 9 b0), some (ev_o 11 b1), none, none, none, some (ev_i u5), some (ev_i u6), none, some (ev_i u8), some (ev_i (S.1 (b1 + 18) ((12 * u6) + u8).toNatClampNeg)), none]) (K' := []) (S' := S1) ?_ rfl rfl rfl hS1
  refine ev_aload_n (ev_o 9 b0) dL_acts_387 rfl rfl ?_
  refine ev_iload (u6) dL_acts_388 rfl ?_
  refine ev_iload (u8) dL_acts_390 rfl ?_
  refine ev_iload (u5) dL_acts_392 rfl ?_
  refine ev_bipush (12) dL_acts_394 (by decide) ?_
  refine ev_idiv dL_acts_396 (by decide) ?_
  refine ev_bipush (10) dL_acts_397 (by decide) ?_
  refine ev_irem dL_acts_399 (by decide) ?_
  refine ev_cV mv_X9_setSnow 6 1 9 [ev_i u6, ev_i u8, ev_i (ev_rem (u5 / 12) 10)] [] dL_acts_400 kw_1635 rfl (by decide) rfl (by decide) (by omega) (Nat.le_of_ble_eq_true rfl) hQ ?_ rfl
  rintro o S2 ⟨v1_, rfl, hQ⟩
  show ev_E g m_L_acts 8 B 403 [some (ev_o 9 b0), some (ev_o 11 b1), none, none, none, some (ev_i u5), some (ev_i u6), none, some (ev_i u8), some (ev_i (S.1 (b1 + 18) ((12 * u6) + u8).toNatClampNeg)), none] [ev_i v1_] S2 Q
  refine ev_iload ((S.1 (b1 + 18) ((12 * u6) + u8).toNatClampNeg)) dL_acts_403 rfl ?_
  refine ev_icmp_ne 412 dL_acts_405 (by decide) (fun c1 => ?_) (fun c1 => ?_)
  · replace hQ := hQ.2 c1
    refine ev_iconst (0) dL_acts_412 rfl ?_
    exact ev_ireturn .boolean dL_acts_413 rfl rfl hQ
  · replace hQ := hQ.1 c1
    refine ev_iconst (1) dL_acts_408 rfl ?_
    refine ev_goto 413 dL_acts_409 (by decide) ?_
    exact ev_ireturn .boolean dL_acts_413 rfl rfl hQ
set_option maxHeartbeats 4000000 in
set_option maxRecDepth 100000 in
theorem sg_L_acts_449 {g : ev_G} {S : ev_S} {Q : ev_O → ev_S → Prop} {B : Nat} (b0 : Nat) (b1 : Nat) (k2 : Nat) (u8 : Int32) (u9 : Int32) (u10 : Int32) (hQ : (u9 ≤ u10 → (
    ev_Cv g m_X9_advance 7 1 [ev_o 9 b0, ev_i u9] S (fun o S1 => ∃ v1_ : Int32, o = .inl (some (ev_i v1_)) ∧ (
      (v1_ = ((S1.1 b1 8) - u8) → (
        Q (.inl (some (ev_i 1))) S1)) ∧
      (¬ (v1_ = ((S1.1 b1 8) - u8)) → (
        Q (.inl (some (ev_i 0))) S1)))))) ∧
  (¬ (u9 ≤ u10) → (
    ev_Cv g m_X11_passes 5 0 [ev_o 11 b1] S (fun o S2 => o = .inl none ∧ (
      ev_E g m_L_acts 8 (B + 1) 449 [some (ev_o 9 b0), some (ev_o 11 b1), none, none, none, none, none, none, some (ev_i u8), some (ev_i u9), some (ev_i (u10 + 1))] [] S2 Q))))) : ev_E g m_L_acts 8 (B + 1) 449 [some (ev_o 9 b0), some (ev_o 11 b1), none, none, none, none, none, none, some (ev_i u8), some (ev_i u9), some (ev_i u10)] [] S Q := by
  refine ev_iload (u10) dL_acts_449 rfl ?_
  refine ev_iload (u9) dL_acts_451 rfl ?_
  refine ev_icmp_ge 466 dL_acts_453 (by decide) (fun c1 => ?_) (fun c1 => ?_)
  · replace hQ := hQ.1 c1
    refine ev_aload_n (ev_o 9 b0) dL_acts_466 rfl rfl ?_
    refine ev_iload (u9) dL_acts_467 rfl ?_
    refine ev_cV mv_X9_advance 7 1 9 [ev_i u9] [] dL_acts_469 kw_1644 rfl (by decide) rfl (by decide) (by omega) (Nat.le_of_ble_eq_true rfl) hQ ?_ rfl
    rintro o S1 ⟨v1_, rfl, hQ⟩
    show ev_E g m_L_acts 8 B 472 [some (ev_o 9 b0), some (ev_o 11 b1), none, none, none, none, none, none, some (ev_i u8), some (ev_i u9), some (ev_i u10)] [ev_i v1_] S1 Q
    refine ev_aload_n (ev_o 11 b1) dL_acts_472 rfl rfl ?_
    refine gn_11_8 dL_acts_473 (List.mem_of_getElem? (i := 28) rfl) ?_
    refine ev_iload (u8) dL_acts_476 rfl ?_
    refine ev_isub dL_acts_478 ?_
    refine ev_icmp_ne 486 dL_acts_479 (by decide) (fun c2 => ?_) (fun c2 => ?_)
    · replace hQ := hQ.2 c2
      refine ev_iconst (0) dL_acts_486 rfl ?_
      exact ev_ireturn .boolean dL_acts_487 rfl rfl hQ
    · replace hQ := hQ.1 c2
      refine ev_iconst (1) dL_acts_482 rfl ?_
      refine ev_goto 487 dL_acts_483 (by decide) ?_
      exact ev_ireturn .boolean dL_acts_487 rfl rfl hQ
  · replace hQ := hQ.2 c1
    refine ev_aload_n (ev_o 11 b1) dL_acts_456 rfl rfl ?_
    refine ev_cV mv_X11_passes 5 0 11 [] [] dL_acts_457 kw_1371 rfl (by decide) rfl (by decide) (by omega) (Nat.le_of_ble_eq_true rfl) hQ ?_ rfl
    rintro o S2 ⟨rfl, hQ⟩
    show ev_E g m_L_acts 8 (B + 1) 460 [some (ev_o 9 b0), some (ev_o 11 b1), none, none, none, none, none, none, some (ev_i u8), some (ev_i u9), some (ev_i u10)] [] S2 Q
    refine ev_iinc u10 (1) dL_acts_460 rfl (by decide) (ev_hw rfl) ?_
    show ev_E g m_L_acts 8 (B + 1) 463 [some (ev_o 9 b0), some (ev_o 11 b1), none, none, none, none, none, none, some (ev_i u8), some (ev_i u9), some (ev_i (u10 + 1))] [] S2 Q
    refine ev_goto 449 dL_acts_463 (by decide) ?_
    exact hQ
