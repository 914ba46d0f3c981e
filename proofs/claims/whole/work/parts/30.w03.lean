set_option maxHeartbeats 4000000 in
set_option maxRecDepth 100000 in
theorem sg_X0_play_0 {g : ev_G} {S : ev_S} {Q : ev_O → ev_S → Prop} (a : Nat) (x0 : Int32) (hQ : ((j_at (S.1 (a + 1)) 64 (ev_rem x0 64)) = (-1) → (
    ∀ S1 : ev_S, S1 = (j_put S (a + 1) 64 (x0 / 64) (-1)) → (
      ∀ S2 : ev_S, S2 = (j_put S1 (a + 1) 64 (ev_rem x0 64) (j_at (S.1 (a + 1)) 64 (x0 / 64))) → (
        ∀ S3 : ev_S, S3 = (ev_up S2 a 6 ((S2.1 a 6) + 1)) → (
          ∀ S4 : ev_S, S4 = (j_put S3 (a + 3) 61 ((S2.1 a 6) + 1) x0) → (
            ∀ S5 : ev_S, S5 = (j_put S4 (a + 4) 61 (S4.1 a 6) 0) → (
              Q (.inl none) S5))))))) ∧
  (¬ ((j_at (S.1 (a + 1)) 64 (ev_rem x0 64)) = (-1)) → (
    ∀ S6 : ev_S, S6 = (j_put S (a + 2) 2 (j_at (S.1 (a + 1)) 64 (ev_rem x0 64)) ((j_at (S.1 (a + 2)) 2 (j_at (S.1 (a + 1)) 64 (ev_rem x0 64))) - 1)) → (
      ∀ S7 : ev_S, S7 = (ev_up S6 a 7 ((S6.1 a 7) + 1)) → (
        ∀ S8 : ev_S, S8 = (j_put S7 (a + 1) 64 (x0 / 64) (-1)) → (
          ∀ S9 : ev_S, S9 = (j_put S8 (a + 1) 64 (ev_rem x0 64) (j_at (S.1 (a + 1)) 64 (x0 / 64))) → (
            ∀ S10 : ev_S, S10 = (ev_up S9 a 6 ((S9.1 a 6) + 1)) → (
              ∀ S11 : ev_S, S11 = (j_put S10 (a + 3) 61 ((S9.1 a 6) + 1) x0) → (
                ∀ S12 : ev_S, S12 = (j_put S11 (a + 4) 61 (S11.1 a 6) 1) → (
                  Q (.inl none) S12)))))))))) : ev_Cv g m_X0_play 3 0 [ev_o 0 a, ev_i x0] S Q := by
  refine ev_enter (by decide) rfl rfl (Nat.le_of_ble_eq_true rfl) ?_
  show ev_E g m_X0_play 3 0 0 [some (ev_o 0 a), some (ev_i x0), none, none, none, none] [] S Q
  refine ev_iload_n (x0) dX0_play_0 rfl ?_
  refine ev_fN ms_X9_startOf 1 [ev_i x0] [] dX0_play_1 (List.mem_of_getElem? (i := 24) rfl) rfl (by decide) (Nat.le_of_ble_eq_true rfl) (sp_X9_startOf x0) ?_ rfl
  refine ev_istore_n dX0_play_4 (Nat.le_of_ble_eq_true rfl) (ev_hw rfl) ?_
  show ev_E g m_X0_play 3 0 5 [some (ev_o 0 a), some (ev_i x0), some (ev_i (x0 / 64)), none, none, none] [] S Q
  refine ev_iload_n (x0) dX0_play_5 rfl ?_
  refine ev_fN ms_X9_endOf 1 [ev_i x0] [] dX0_play_6 (List.mem_of_getElem? (i := 25) rfl) rfl (by decide) (Nat.le_of_ble_eq_true rfl) (sp_X9_endOf x0) ?_ rfl
  refine ev_istore_n dX0_play_9 (Nat.le_of_ble_eq_true rfl) (ev_hw rfl) ?_
  show ev_E g m_X0_play 3 0 10 [some (ev_o 0 a), some (ev_i x0), some (ev_i (x0 / 64)), some (ev_i (ev_rem x0 64)), none, none] [] S Q
  refine ev_aload_n (ev_o 0 a) dX0_play_10 rfl rfl ?_
  refine ev_iload_n ((x0 / 64)) dX0_play_11 rfl ?_
  refine ev_fV mv_X0_ownerOn 2 0 [ev_i (x0 / 64)] [] dX0_play_12 kw_893 rfl (by decide) rfl (by decide) (Nat.le_of_ble_eq_true rfl) (sp_X0_ownerOn a (x0 / 64)) ?_ rfl
  refine ev_istore dX0_play_15 (Nat.le_of_ble_eq_true rfl) (ev_hw rfl) ?_
  show ev_E g m_X0_play 3 0 17 [some (ev_o 0 a), some (ev_i x0), some (ev_i (x0 / 64)), some (ev_i (ev_rem x0 64)), some (ev_i (j_at (S.1 (a + 1)) 64 (x0 / 64))), none] [] S Q
  refine ev_aload_n (ev_o 0 a) dX0_play_17 rfl rfl ?_
  refine ev_iload_n ((ev_rem x0 64)) dX0_play_18 rfl ?_
  refine ev_fV mv_X0_ownerOn 2 0 [ev_i (ev_rem x0 64)] [] dX0_play_19 kw_893 rfl (by decide) rfl (by decide) (Nat.le_of_ble_eq_true rfl) (sp_X0_ownerOn a (ev_rem x0 64)) ?_ rfl
  refine ev_istore dX0_play_22 (Nat.le_of_ble_eq_true rfl) (ev_hw rfl) ?_
  show ev_E g m_X0_play 3 0 24 [some (ev_o 0 a), some (ev_i x0), some (ev_i (x0 / 64)), some (ev_i (ev_rem x0 64)), some (ev_i (j_at (S.1 (a + 1)) 64 (x0 / 64))), some (ev_i (j_at (S.1 (a + 1)) 64 (ev_rem x0 64)))] [] S Q
  refine ev_iload ((j_at (S.1 (a + 1)) 64 (ev_rem x0 64))) dX0_play_24 rfl ?_
  refine ev_iconst (-1) dX0_play_26 rfl ?_
  refine ev_icmp_eq 60 dX0_play_27 (by decide) (fun c1 => ?_) (fun c1 => ?_)
  · replace hQ := hQ.1 c1
    refine ev_aload_n (ev_o 0 a) dX0_play_60 rfl rfl ?_
    refine gf_0_0 dX0_play_61 kw_239 ?_
    refine ev_iload_n ((x0 / 64)) dX0_play_64 rfl ?_
    refine ev_iconst (-1) dX0_play_65 rfl ?_
    refine ev_fNn ms_X9_put 1 [ev_y 64 (a + 1), ev_i (x0 / 64), ev_i (-1)] [] dX0_play_66 (List.mem_of_getElem? (i := 12) rfl) rfl (by decide) (Nat.le_of_ble_eq_true rfl) (sp_X9_put 64 (a + 1) (x0 / 64) (-1)) ?_ rfl
    refine ev_sub hQ (fun S1 hS1 hQ => ?_)
    refine ev_E.goal (pc' := 69) (L' := [some (ev_o 0 a), some (ev_i x0), some (ev_i (x0 / 64)), some (ev_i (ev_rem x0 64)), some (ev_i (j_at (S.1 (a + 1)) 64 (x0 / 64))), some (ev_i (j_at (S.1 (a + 1)) 64 (ev_rem x0 64)))]) (K' := []) (S' := S1) ?_ rfl rfl rfl hS1
    refine ev_aload_n (ev_o 0 a) dX0_play_69 rfl rfl ?_
    refine gf_0_0 dX0_play_70 kw_239 ?_
    refine ev_iload_n ((ev_rem x0 64)) dX0_play_73 rfl ?_
    refine ev_iload ((j_at (S.1 (a + 1)) 64 (x0 / 64))) dX0_play_74 rfl ?_
    refine ev_fNn ms_X9_put 1 [ev_y 64 (a + 1), ev_i (ev_rem x0 64), ev_i (j_at (S.1 (a + 1)) 64 (x0 / 64))] [] dX0_play_76 (List.mem_of_getElem? (i := 12) rfl) rfl (by decide) (Nat.le_of_ble_eq_true rfl) (sp_X9_put 64 (a + 1) (ev_rem x0 64) (j_at (S.1 (a + 1)) 64 (x0 / 64))) ?_ rfl
    refine ev_sub hQ (fun S2 hS2 hQ => ?_)
    refine ev_E.goal (pc' := 79) (L' := [some (ev_o 0 a), some (ev_i x0), some (ev_i (x0 / 64)), some (ev_i (ev_rem x0 64)), some (ev_i (j_at (S.1 (a + 1)) 64 (x0 / 64))), some (ev_i (j_at (S.1 (a + 1)) 64 (ev_rem x0 64)))]) (K' := []) (S' := S2) ?_ rfl rfl rfl hS2
    refine ev_aload_n (ev_o 0 a) dX0_play_79 rfl rfl ?_
    refine ev_dup dX0_play_80 rfl ?_
    refine gf_0_6 dX0_play_81 kw_245 ?_
    refine ev_iconst (1) dX0_play_84 rfl ?_
    refine ev_iadd dX0_play_85 ?_
    refine pf_0_6 dX0_play_86 kw_245 ?_
    refine ev_sub hQ (fun S3 hS3 hQ => ?_)
    refine ev_E.goal (pc' := 89) (L' := [some (ev_o 0 a), some (ev_i x0), some (ev_i (x0 / 64)), some (ev_i (ev_rem x0 64)), some (ev_i (j_at (S.1 (a + 1)) 64 (x0 / 64))), some (ev_i (j_at (S.1 (a + 1)) 64 (ev_rem x0 64)))]) (K' := []) (S' := S3) ?_ rfl rfl rfl hS3
    refine ev_aload_n (ev_o 0 a) dX0_play_89 rfl rfl ?_
    refine gf_0_2 dX0_play_90 kw_241 ?_
    refine ev_aload_n (ev_o 0 a) dX0_play_93 rfl rfl ?_
    refine gf_0_6 dX0_play_94 kw_245 ?_
    refine ev_ke (j_rs hS3) ?_
    refine ev_iload_n (x0) dX0_play_97 rfl ?_
    refine ev_fNn ms_X9_put 1 [ev_y 61 (a + 3), ev_i ((S2.1 a 6) + 1), ev_i x0] [] dX0_play_98 (List.mem_of_getElem? (i := 12) rfl) rfl (by decide) (Nat.le_of_ble_eq_true rfl) (sp_X9_put 61 (a + 3) ((S2.1 a 6) + 1) x0) ?_ rfl
    refine ev_sub hQ (fun S4 hS4 hQ => ?_)
    refine ev_E.goal (pc' := 101) (L' := [some (ev_o 0 a), some (ev_i x0), some (ev_i (x0 / 64)), some (ev_i (ev_rem x0 64)), some (ev_i (j_at (S.1 (a + 1)) 64 (x0 / 64))), some (ev_i (j_at (S.1 (a + 1)) 64 (ev_rem x0 64)))]) (K' := []) (S' := S4) ?_ rfl rfl rfl hS4
    refine ev_aload_n (ev_o 0 a) dX0_play_101 rfl rfl ?_
    refine gf_0_3 dX0_play_102 kw_242 ?_
    refine ev_aload_n (ev_o 0 a) dX0_play_105 rfl rfl ?_
    refine gf_0_6 dX0_play_106 kw_245 ?_
    refine ev_iload ((j_at (S.1 (a + 1)) 64 (ev_rem x0 64))) dX0_play_109 rfl ?_
    refine ev_iconst (-1) dX0_play_111 rfl ?_
    refine ev_icmp_ne 119 dX0_play_112 (by decide) (fun h9 => absurd c1 h9) (fun _ => ?_)
    refine ev_iconst (0) dX0_play_115 rfl ?_
    refine ev_goto 120 dX0_play_116 (by decide) ?_
    refine ev_fNn ms_X9_put 1 [ev_y 61 (a + 4), ev_i (S4.1 a 6), ev_i 0] [] dX0_play_120 (List.mem_of_getElem? (i := 12) rfl) rfl (by decide) (Nat.le_of_ble_eq_true rfl) (sp_X9_put 61 (a + 4) (S4.1 a 6) 0) ?_ rfl
    refine ev_sub hQ (fun S5 hS5 hQ => ?_)
    refine ev_E.goal (pc' := 123) (L' := [some (ev_o 0 a), some (ev_i x0), some (ev_i (x0 / 64)), some (ev_i (ev_rem x0 64)), some (ev_i (j_at (S.1 (a + 1)) 64 (x0 / 64))), some (ev_i (j_at (S.1 (a + 1)) 64 (ev_rem x0 64)))]) (K' := []) (S' := S5) ?_ rfl rfl rfl hS5
    exact ev_return dX0_play_123 rfl hQ
  · replace hQ := hQ.2 c1
    refine ev_aload_n (ev_o 0 a) dX0_play_30 rfl rfl ?_
    refine gf_0_1 dX0_play_31 kw_240 ?_
    refine ev_iload ((j_at (S.1 (a + 1)) 64 (ev_rem x0 64))) dX0_play_34 rfl ?_
    refine ev_aload_n (ev_o 0 a) dX0_play_36 rfl rfl ?_
    refine gf_0_1 dX0_play_37 kw_240 ?_
    refine ev_iload ((j_at (S.1 (a + 1)) 64 (ev_rem x0 64))) dX0_play_40 rfl ?_
    refine ev_fN ms_X9_at 1 [ev_y 2 (a + 2), ev_i (j_at (S.1 (a + 1)) 64 (ev_rem x0 64))] [ev_i (j_at (S.1 (a + 1)) 64 (ev_rem x0 64)), ev_y 2 (a + 2)] dX0_play_42 (List.mem_of_getElem? (i := 11) rfl) rfl (by decide) (Nat.le_of_ble_eq_true rfl) (sp_X9_at 2 (a + 2) (j_at (S.1 (a + 1)) 64 (ev_rem x0 64))) ?_ rfl
    refine ev_iconst (1) dX0_play_45 rfl ?_
    refine ev_isub dX0_play_46 ?_
    refine ev_fNn ms_X9_put 1 [ev_y 2 (a + 2), ev_i (j_at (S.1 (a + 1)) 64 (ev_rem x0 64)), ev_i ((j_at (S.1 (a + 2)) 2 (j_at (S.1 (a + 1)) 64 (ev_rem x0 64))) - 1)] [] dX0_play_47 (List.mem_of_getElem? (i := 12) rfl) rfl (by decide) (Nat.le_of_ble_eq_true rfl) (sp_X9_put 2 (a + 2) (j_at (S.1 (a + 1)) 64 (ev_rem x0 64)) ((j_at (S.1 (a + 2)) 2 (j_at (S.1 (a + 1)) 64 (ev_rem x0 64))) - 1)) ?_ rfl
    refine ev_sub hQ (fun S6 hS6 hQ => ?_)
    refine ev_E.goal (pc' := 50) (L' := [some (ev_o 0 a), some (ev_i x0), some (ev_i (x0 / 64)), some (ev_i (ev_rem x0 64)), some (ev_i (j_at (S.1 (a + 1)) 64 (x0 / 64))), some (ev_i (j_at (S.1 (a + 1)) 64 (ev_rem x0 64)))]) (K' := []) (S' := S6) ?_ rfl rfl rfl hS6
    refine ev_aload_n (ev_o 0 a) dX0_play_50 rfl rfl ?_
    refine ev_dup dX0_play_51 rfl ?_
    refine gf_0_7 dX0_play_52 kw_246 ?_
    refine ev_iconst (1) dX0_play_55 rfl ?_
    refine ev_iadd dX0_play_56 ?_
    refine pf_0_7 dX0_play_57 kw_246 ?_
    refine ev_sub hQ (fun S7 hS7 hQ => ?_)
    refine ev_E.goal (pc' := 60) (L' := [some (ev_o 0 a), some (ev_i x0), some (ev_i (x0 / 64)), some (ev_i (ev_rem x0 64)), some (ev_i (j_at (S.1 (a + 1)) 64 (x0 / 64))), some (ev_i (j_at (S.1 (a + 1)) 64 (ev_rem x0 64)))]) (K' := []) (S' := S7) ?_ rfl rfl rfl hS7
    refine ev_aload_n (ev_o 0 a) dX0_play_60 rfl rfl ?_
    refine gf_0_0 dX0_play_61 kw_239 ?_
    refine ev_iload_n ((x0 / 64)) dX0_play_64 rfl ?_
    refine ev_iconst (-1) dX0_play_65 rfl ?_
    refine ev_fNn ms_X9_put 1 [ev_y 64 (a + 1), ev_i (x0 / 64), ev_i (-1)] [] dX0_play_66 (List.mem_of_getElem? (i := 12) rfl) rfl (by decide) (Nat.le_of_ble_eq_true rfl) (sp_X9_put 64 (a + 1) (x0 / 64) (-1)) ?_ rfl
    refine ev_sub hQ (fun S8 hS8 hQ => ?_)
    refine ev_E.goal (pc' := 69) (L' := [some (ev_o 0 a), some (ev_i x0), some (ev_i (x0 / 64)), some (ev_i (ev_rem x0 64)), some (ev_i (j_at (S.1 (a + 1)) 64 (x0 / 64))), some (ev_i (j_at (S.1 (a + 1)) 64 (ev_rem x0 64)))]) (K' := []) (S' := S8) ?_ rfl rfl rfl hS8
    refine ev_aload_n (ev_o 0 a) dX0_play_69 rfl rfl ?_
    refine gf_0_0 dX0_play_70 kw_239 ?_
    refine ev_iload_n ((ev_rem x0 64)) dX0_play_73 rfl ?_
    refine ev_iload ((j_at (S.1 (a + 1)) 64 (x0 / 64))) dX0_play_74 rfl ?_
    refine ev_fNn ms_X9_put 1 [ev_y 64 (a + 1), ev_i (ev_rem x0 64), ev_i (j_at (S.1 (a + 1)) 64 (x0 / 64))] [] dX0_play_76 (List.mem_of_getElem? (i := 12) rfl) rfl (by decide) (Nat.le_of_ble_eq_true rfl) (sp_X9_put 64 (a + 1) (ev_rem x0 64) (j_at (S.1 (a + 1)) 64 (x0 / 64))) ?_ rfl
    refine ev_sub hQ (fun S9 hS9 hQ => ?_)
    refine ev_E.goal (pc' := 79) (L' := [some (ev_o 0 a), some (ev_i x0), some (ev_i (x0 / 64)), some (ev_i (ev_rem x0 64)), some (ev_i (j_at (S.1 (a + 1)) 64 (x0 / 64))), some (ev_i (j_at (S.1 (a + 1)) 64 (ev_rem x0 64)))]) (K' := []) (S' := S9) ?_ rfl rfl rfl hS9
    refine ev_aload_n (ev_o 0 a) dX0_play_79 rfl rfl ?_
    refine ev_dup dX0_play_80 rfl ?_
    refine gf_0_6 dX0_play_81 kw_245 ?_
    refine ev_iconst (1) dX0_play_84 rfl ?_
    refine ev_iadd dX0_play_85 ?_
    refine pf_0_6 dX0_play_86 kw_245 ?_
    refine ev_sub hQ (fun S10 hS10 hQ => ?_)
    refine ev_E.goal (pc' := 89) (L' := [some (ev_o 0 a), some (ev_i x0), some (ev_i (x0 / 64)), some (ev_i (ev_rem x0 64)), some (ev_i (j_at (S.1 (a + 1)) 64 (x0 / 64))), some (ev_i (j_at (S.1 (a + 1)) 64 (ev_rem x0 64)))]) (K' := []) (S' := S10) ?_ rfl rfl rfl hS10
    refine ev_aload_n (ev_o 0 a) dX0_play_89 rfl rfl ?_
    refine gf_0_2 dX0_play_90 kw_241 ?_
    refine ev_aload_n (ev_o 0 a) dX0_play_93 rfl rfl ?_
    refine gf_0_6 dX0_play_94 kw_245 ?_
    refine ev_ke (j_rs hS10) ?_
    refine ev_iload_n (x0) dX0_play_97 rfl ?_
    refine ev_fNn ms_X9_put 1 [ev_y 61 (a + 3), ev_i ((S9.1 a 6) + 1), ev_i x0] [] dX0_play_98 (List.mem_of_getElem? (i := 12) rfl) rfl (by decide) (Nat.le_of_ble_eq_true rfl) (sp_X9_put 61 (a + 3) ((S9.1 a 6) + 1) x0) ?_ rfl
    refine ev_sub hQ (fun S11 hS11 hQ => ?_)
    refine ev_E.goal (pc' := 101) (L' := [some (ev_o 0 a), some (ev_i x0), some (ev_i (x0 / 64)), some (ev_i (ev_rem x0 64)), some (ev_i (j_at (S.1 (a + 1)) 64 (x0 / 64))), some (ev_i (j_at (S.1 (a + 1)) 64 (ev_rem x0 64)))]) (K' := []) (S' := S11) ?_ rfl rfl rfl hS11
    refine ev_aload_n (ev_o 0 a) dX0_play_101 rfl rfl ?_
    refine gf_0_3 dX0_play_102 kw_242 ?_
    refine ev_aload_n (ev_o 0 a) dX0_play_105 rfl rfl ?_
    refine gf_0_6 dX0_play_106 kw_245 ?_
    refine ev_iload ((j_at (S.1 (a + 1)) 64 (ev_rem x0 64))) dX0_play_109 rfl ?_
    refine ev_iconst (-1) dX0_play_111 rfl ?_
    refine ev_icmp_ne 119 dX0_play_112 (by decide) (fun _ => ?_) (fun h9 => absurd h9 c1)
    refine ev_iconst (1) dX0_play_119 rfl ?_
    refine ev_fNn ms_X9_put 1 [ev_y 61 (a + 4), ev_i (S11.1 a 6), ev_i 1] [] dX0_play_120 (List.mem_of_getElem? (i := 12) rfl) rfl (by decide) (Nat.le_of_ble_eq_true rfl) (sp_X9_put 61 (a + 4) (S11.1 a 6) 1) ?_ rfl
    refine ev_sub hQ (fun S12 hS12 hQ => ?_)
    refine ev_E.goal (pc' := 123) (L' := [some (ev_o 0 a), some (ev_i x0), some (ev_i (x0 / 64)), some (ev_i (ev_rem x0 64)), some (ev_i (j_at (S.1 (a + 1)) 64 (x0 / 64))), some (ev_i (j_at (S.1 (a + 1)) 64 (ev_rem x0 64)))]) (K' := []) (S' := S12) ?_ rfl rfl rfl hS12
    exact ev_return dX0_play_123 rfl hQ
set_option maxHeartbeats 4000000 in
set_option maxRecDepth 100000 in
theorem sg_X1_playOwn_0 {g : ev_G} {S : ev_S} {Q : ev_O → ev_S → Prop} (a : Nat) (x0 : Int32) (x1 : Int32) (hQ : ev_Cv g m_X0_play 3 0 [ev_o 0 (a + 1), ev_i x0] S (fun o S1 => o = .inl none ∧ (
    ∀ S2 : ev_S, S2 = (ev_up S1 a 7 x1) → (
      Q (.inl none) S2)))) : ev_Cv g m_X1_playOwn 4 0 [ev_o 1 a, ev_i x0, ev_i x1] S Q := by
  refine ev_enter (by decide) rfl rfl (Nat.le_of_ble_eq_true rfl) ?_
  show ev_E g m_X1_playOwn 4 0 0 [some (ev_o 1 a), some (ev_i x0), some (ev_i x1)] [] S Q
  refine ev_aload_n (ev_o 1 a) dX1_playOwn_0 rfl rfl ?_
  refine gf_1_1 dX1_playOwn_1 kw_268 ?_
  refine ev_iload_n (x0) dX1_playOwn_4 rfl ?_
  refine ev_cV mv_X0_play 3 0 0 [ev_i x0] [] dX1_playOwn_5 kw_909 rfl (by decide) rfl (by decide) (by decide) (Nat.le_of_ble_eq_true rfl) hQ ?_ rfl
  rintro o S1 ⟨rfl, hQ⟩
  show ev_E g m_X1_playOwn 4 0 8 [some (ev_o 1 a), some (ev_i x0), some (ev_i x1)] [] S1 Q
  refine ev_aload_n (ev_o 1 a) dX1_playOwn_8 rfl rfl ?_
  refine ev_iload_n (x1) dX1_playOwn_9 rfl ?_
  refine pf_1_7 dX1_playOwn_10 kw_274 ?_
  refine ev_sub hQ (fun S2 hS2 hQ => ?_)
  refine ev_E.goal (pc' := 13) (L' := [some (ev_o 1 a), some (ev_i x0), some (ev_i x1)]) (K' := []) (S' := S2) ?_ rfl rfl rfl hS2
  exact ev_return dX1_playOwn_13 rfl hQ
set_option maxHeartbeats 4000000 in
set_option maxRecDepth 100000 in
theorem sg_X6_changeWaiting_0 {g : ev_G} {S : ev_S} {Q : ev_O → ev_S → Prop} (a : Nat) (x0 : Int32) (x1 : Int32) (x2 : Int32) (hQ : ∀ S1 : ev_S, S1 = (j_put S (a + 16) 8 ((x0 * 2) + x1) ((j_at (S.1 (a + 16)) 8 ((x0 * 2) + x1)) + x2)) → (
    Q (.inl none) S1)) : ev_Cv g m_X6_changeWaiting 2 0 [ev_o 6 a, ev_i x0, ev_i x1, ev_i x2] S Q := by
  refine ev_enter (by decide) rfl rfl (Nat.le_of_ble_eq_true rfl) ?_
  show ev_E g m_X6_changeWaiting 2 0 0 [some (ev_o 6 a), some (ev_i x0), some (ev_i x1), some (ev_i x2), none] [] S Q
  refine ev_iload_n (x0) dX6_changeWaiting_0 rfl ?_
  refine ev_iconst (2) dX6_changeWaiting_1 rfl ?_
  refine ev_imul dX6_changeWaiting_2 ?_
  refine ev_iload_n (x1) dX6_changeWaiting_3 rfl ?_
  refine ev_iadd dX6_changeWaiting_4 ?_
  refine ev_istore dX6_changeWaiting_5 (Nat.le_of_ble_eq_true rfl) (ev_hw rfl) ?_
  show ev_E g m_X6_changeWaiting 2 0 7 [some (ev_o 6 a), some (ev_i x0), some (ev_i x1), some (ev_i x2), some (ev_i ((x0 * 2) + x1))] [] S Q
  refine ev_aload_n (ev_o 6 a) dX6_changeWaiting_7 rfl rfl ?_
  refine gf_6_12 dX6_changeWaiting_8 kw_341 ?_
  refine ev_iload (((x0 * 2) + x1)) dX6_changeWaiting_11 rfl ?_
  refine ev_aload_n (ev_o 6 a) dX6_changeWaiting_13 rfl rfl ?_
  refine gf_6_12 dX6_changeWaiting_14 kw_341 ?_
  refine ev_iload (((x0 * 2) + x1)) dX6_changeWaiting_17 rfl ?_
  refine ev_fN ms_X9_at 1 [ev_y 8 (a + 16), ev_i ((x0 * 2) + x1)] [ev_i ((x0 * 2) + x1), ev_y 8 (a + 16)] dX6_changeWaiting_19 (List.mem_of_getElem? (i := 27) rfl) rfl (by decide) (Nat.le_of_ble_eq_true rfl) (sp_X9_at 8 (a + 16) ((x0 * 2) + x1)) ?_ rfl
  refine ev_iload_n (x2) dX6_changeWaiting_22 rfl ?_
  refine ev_iadd dX6_changeWaiting_23 ?_
  refine ev_fNn ms_X9_put 1 [ev_y 8 (a + 16), ev_i ((x0 * 2) + x1), ev_i ((j_at (S.1 (a + 16)) 8 ((x0 * 2) + x1)) + x2)] [] dX6_changeWaiting_24 (List.mem_of_getElem? (i := 26) rfl) rfl (by decide) (Nat.le_of_ble_eq_true rfl) (sp_X9_put 8 (a + 16) ((x0 * 2) + x1) ((j_at (S.1 (a + 16)) 8 ((x0 * 2) + x1)) + x2)) ?_ rfl
  refine ev_sub hQ (fun S1 hS1 hQ => ?_)
  refine ev_E.goal (pc' := 27) (L' := [some (ev_o 6 a), some (ev_i x0), some (ev_i x1), some (ev_i x2), some (ev_i ((x0 * 2) + x1))]) (K' := []) (S' := S1) ?_ rfl rfl rfl hS1
  exact ev_return dX6_changeWaiting_27 rfl hQ
set_option maxHeartbeats 4000000 in
set_option maxRecDepth 100000 in
theorem sp_X6_changeWaiting {g : ev_G} {S : ev_S} (a : Nat) (x0 : Int32) (x1 : Int32) (x2 : Int32)  : ev_Fn g m_X6_changeWaiting 2 [ev_o 6 a, ev_i x0, ev_i x1, ev_i x2] S none (j_put S (a + 16) 8 ((x0 * 2) + x1) ((j_at (S.1 (a + 16)) 8 ((x0 * 2) + x1)) + x2)) := by
  intro Q hQ
  refine sg_X6_changeWaiting_0 a x0 x1 x2 ?_
  intro S1 hS1
  subst hS1
  exact hQ
set_option maxHeartbeats 4000000 in
set_option maxRecDepth 100000 in
theorem sg_X6_add_0 {g : ev_G} {S : ev_S} {Q : ev_O → ev_S → Prop} (a : Nat) (x0 : Int32) (x1 : Int32) (x2 : Int32) (x3 : Int32) (x4 : Int32) (x5 : Int32) (hQ : ∀ S1 : ev_S, S1 = (j_put S (a + 5) 84 (S.1 a 13) x0) → (
    ∀ S2 : ev_S, S2 = (j_put S1 (a + 6) 84 (S.1 a 13) x1) → (
      ∀ S3 : ev_S, S3 = (j_put S2 (a + 7) 84 (S.1 a 13) x2) → (
        ∀ S4 : ev_S, S4 = (j_put S3 (a + 8) 84 (S.1 a 13) x3) → (
          ∀ S5 : ev_S, S5 = (j_put S4 (a + 9) 84 (S.1 a 13) x4) → (
            ∀ S6 : ev_S, S6 = (j_put S5 (a + 10) 84 (S.1 a 13) 0) → (
              ∀ S7 : ev_S, S7 = (j_put S6 (a + 12) 84 (S.1 a 13) x5) → (
                ∀ S8 : ev_S, S8 = (j_put S7 (a + 16) 8 ((x4 * 2) + x0) ((j_at (S7.1 (a + 16)) 8 ((x4 * 2) + x0)) + 1)) → (
                  ∀ S9 : ev_S, S9 = (ev_up S8 a 13 ((S8.1 a 13) + 1)) → (
                    Q (.inl (some (ev_i (S.1 a 13)))) S9)))))))))) : ev_Cv g m_X6_add 3 0 [ev_o 6 a, ev_i x0, ev_i x1, ev_i x2, ev_i x3, ev_i x4, ev_i x5] S Q := by
  refine ev_enter (by decide) rfl rfl (Nat.le_of_ble_eq_true rfl) ?_
  show ev_E g m_X6_add 3 0 0 [some (ev_o 6 a), some (ev_i x0), some (ev_i x1), some (ev_i x2), some (ev_i x3), some (ev_i x4), some (ev_i x5), none] [] S Q
  refine ev_aload_n (ev_o 6 a) dX6_add_0 rfl rfl ?_
  refine gf_6_13 dX6_add_1 kw_342 ?_
  refine ev_istore dX6_add_4 (Nat.le_of_ble_eq_true rfl) (ev_hw rfl) ?_
  show ev_E g m_X6_add 3 0 6 [some (ev_o 6 a), some (ev_i x0), some (ev_i x1), some (ev_i x2), some (ev_i x3), some (ev_i x4), some (ev_i x5), some (ev_i (S.1 a 13))] [] S Q
  refine ev_aload_n (ev_o 6 a) dX6_add_6 rfl rfl ?_
  refine gf_6_1 dX6_add_7 kw_330 ?_
  refine ev_iload ((S.1 a 13)) dX6_add_10 rfl ?_
  refine ev_iload_n (x0) dX6_add_12 rfl ?_
  refine ev_fNn ms_X9_put 1 [ev_y 84 (a + 5), ev_i (S.1 a 13), ev_i x0] [] dX6_add_13 (List.mem_of_getElem? (i := 26) rfl) rfl (by decide) (Nat.le_of_ble_eq_true rfl) (sp_X9_put 84 (a + 5) (S.1 a 13) x0) ?_ rfl
  refine ev_sub hQ (fun S1 hS1 hQ => ?_)
  refine ev_E.goal (pc' := 16) (L' := [some (ev_o 6 a), some (ev_i x0), some (ev_i x1), some (ev_i x2), some (ev_i x3), some (ev_i x4), some (ev_i x5), some (ev_i (S.1 a 13))]) (K' := []) (S' := S1) ?_ rfl rfl rfl hS1
  refine ev_aload_n (ev_o 6 a) dX6_add_16 rfl rfl ?_
  refine gf_6_2 dX6_add_17 kw_331 ?_
  refine ev_iload ((S.1 a 13)) dX6_add_20 rfl ?_
  refine ev_iload_n (x1) dX6_add_22 rfl ?_
  refine ev_fNn ms_X9_put 1 [ev_y 84 (a + 6), ev_i (S.1 a 13), ev_i x1] [] dX6_add_23 (List.mem_of_getElem? (i := 26) rfl) rfl (by decide) (Nat.le_of_ble_eq_true rfl) (sp_X9_put 84 (a + 6) (S.1 a 13) x1) ?_ rfl
  refine ev_sub hQ (fun S2 hS2 hQ => ?_)
  refine ev_E.goal (pc' := 26) (L' := [some (ev_o 6 a), some (ev_i x0), some (ev_i x1), some (ev_i x2), some (ev_i x3), some (ev_i x4), some (ev_i x5), some (ev_i (S.1 a 13))]) (K' := []) (S' := S2) ?_ rfl rfl rfl hS2
  refine ev_aload_n (ev_o 6 a) dX6_add_26 rfl rfl ?_
  refine gf_6_3 dX6_add_27 kw_332 ?_
  refine ev_iload ((S.1 a 13)) dX6_add_30 rfl ?_
  refine ev_iload_n (x2) dX6_add_32 rfl ?_
  refine ev_fNn ms_X9_put 1 [ev_y 84 (a + 7), ev_i (S.1 a 13), ev_i x2] [] dX6_add_33 (List.mem_of_getElem? (i := 26) rfl) rfl (by decide) (Nat.le_of_ble_eq_true rfl) (sp_X9_put 84 (a + 7) (S.1 a 13) x2) ?_ rfl
  refine ev_sub hQ (fun S3 hS3 hQ => ?_)
  refine ev_E.goal (pc' := 36) (L' := [some (ev_o 6 a), some (ev_i x0), some (ev_i x1), some (ev_i x2), some (ev_i x3), some (ev_i x4), some (ev_i x5), some (ev_i (S.1 a 13))]) (K' := []) (S' := S3) ?_ rfl rfl rfl hS3
  refine ev_aload_n (ev_o 6 a) dX6_add_36 rfl rfl ?_
  refine gf_6_4 dX6_add_37 kw_333 ?_
  refine ev_iload ((S.1 a 13)) dX6_add_40 rfl ?_
  refine ev_iload (x3) dX6_add_42 rfl ?_
  refine ev_fNn ms_X9_put 1 [ev_y 84 (a + 8), ev_i (S.1 a 13), ev_i x3] [] dX6_add_44 (List.mem_of_getElem? (i := 26) rfl) rfl (by decide) (Nat.le_of_ble_eq_true rfl) (sp_X9_put 84 (a + 8) (S.1 a 13) x3) ?_ rfl
  refine ev_sub hQ (fun S4 hS4 hQ => ?_)
  refine ev_E.goal (pc' := 47) (L' := [some (ev_o 6 a), some (ev_i x0), some (ev_i x1), some (ev_i x2), some (ev_i x3), some (ev_i x4), some (ev_i x5), some (ev_i (S.1 a 13))]) (K' := []) (S' := S4) ?_ rfl rfl rfl hS4
  refine ev_aload_n (ev_o 6 a) dX6_add_47 rfl rfl ?_
  refine gf_6_5 dX6_add_48 kw_334 ?_
  refine ev_iload ((S.1 a 13)) dX6_add_51 rfl ?_
  refine ev_iload (x4) dX6_add_53 rfl ?_
  refine ev_fNn ms_X9_put 1 [ev_y 84 (a + 9), ev_i (S.1 a 13), ev_i x4] [] dX6_add_55 (List.mem_of_getElem? (i := 26) rfl) rfl (by decide) (Nat.le_of_ble_eq_true rfl) (sp_X9_put 84 (a + 9) (S.1 a 13) x4) ?_ rfl
  refine ev_sub hQ (fun S5 hS5 hQ => ?_)
  refine ev_E.goal (pc' := 58) (L' := [some (ev_o 6 a), some (ev_i x0), some (ev_i x1), some (ev_i x2), some (ev_i x3), some (ev_i x4), some (ev_i x5), some (ev_i (S.1 a 13))]) (K' := []) (S' := S5) ?_ rfl rfl rfl hS5
  refine ev_aload_n (ev_o 6 a) dX6_add_58 rfl rfl ?_
  refine gf_6_6 dX6_add_59 kw_335 ?_
  refine ev_iload ((S.1 a 13)) dX6_add_62 rfl ?_
  refine ev_iconst (0) dX6_add_64 rfl ?_
  refine ev_fNn ms_X9_put 1 [ev_y 84 (a + 10), ev_i (S.1 a 13), ev_i 0] [] dX6_add_65 (List.mem_of_getElem? (i := 26) rfl) rfl (by decide) (Nat.le_of_ble_eq_true rfl) (sp_X9_put 84 (a + 10) (S.1 a 13) 0) ?_ rfl
  refine ev_sub hQ (fun S6 hS6 hQ => ?_)
  refine ev_E.goal (pc' := 68) (L' := [some (ev_o 6 a), some (ev_i x0), some (ev_i x1), some (ev_i x2), some (ev_i x3), some (ev_i x4), some (ev_i x5), some (ev_i (S.1 a 13))]) (K' := []) (S' := S6) ?_ rfl rfl rfl hS6
  refine ev_aload_n (ev_o 6 a) dX6_add_68 rfl rfl ?_
  refine gf_6_8 dX6_add_69 kw_337 ?_
  refine ev_iload ((S.1 a 13)) dX6_add_72 rfl ?_
  refine ev_iload (x5) dX6_add_74 rfl ?_
  refine ev_fNn ms_X9_put 1 [ev_y 84 (a + 12), ev_i (S.1 a 13), ev_i x5] [] dX6_add_76 (List.mem_of_getElem? (i := 26) rfl) rfl (by decide) (Nat.le_of_ble_eq_true rfl) (sp_X9_put 84 (a + 12) (S.1 a 13) x5) ?_ rfl
  refine ev_sub hQ (fun S7 hS7 hQ => ?_)
  refine ev_E.goal (pc' := 79) (L' := [some (ev_o 6 a), some (ev_i x0), some (ev_i x1), some (ev_i x2), some (ev_i x3), some (ev_i x4), some (ev_i x5), some (ev_i (S.1 a 13))]) (K' := []) (S' := S7) ?_ rfl rfl rfl hS7
  refine ev_aload_n (ev_o 6 a) dX6_add_79 rfl rfl ?_
  refine ev_iload (x4) dX6_add_80 rfl ?_
  refine ev_iload_n (x0) dX6_add_82 rfl ?_
  refine ev_iconst (1) dX6_add_83 rfl ?_
  refine ev_fVn mv_X6_changeWaiting 2 6 [ev_i x4, ev_i x0, ev_i 1] [] dX6_add_84 kw_924 rfl (by decide) rfl (by decide) (Nat.le_of_ble_eq_true rfl) (sp_X6_changeWaiting a x4 x0 1) ?_ rfl
  refine ev_sub hQ (fun S8 hS8 hQ => ?_)
  refine ev_E.goal (pc' := 87) (L' := [some (ev_o 6 a), some (ev_i x0), some (ev_i x1), some (ev_i x2), some (ev_i x3), some (ev_i x4), some (ev_i x5), some (ev_i (S.1 a 13))]) (K' := []) (S' := S8) ?_ rfl rfl rfl hS8
  refine ev_aload_n (ev_o 6 a) dX6_add_87 rfl rfl ?_
  refine ev_dup dX6_add_88 rfl ?_
  refine gf_6_13 dX6_add_89 kw_342 ?_
  refine ev_iconst (1) dX6_add_92 rfl ?_
  refine ev_iadd dX6_add_93 ?_
  refine pf_6_13 dX6_add_94 kw_342 ?_
  refine ev_sub hQ (fun S9 hS9 hQ => ?_)
  refine ev_E.goal (pc' := 97) (L' := [some (ev_o 6 a), some (ev_i x0), some (ev_i x1), some (ev_i x2), some (ev_i x3), some (ev_i x4), some (ev_i x5), some (ev_i (S.1 a 13))]) (K' := []) (S' := S9) ?_ rfl rfl rfl hS9
  refine ev_iload ((S.1 a 13)) dX6_add_97 rfl ?_
  exact ev_ireturn .int dX6_add_99 rfl rfl hQ
set_option maxHeartbeats 4000000 in
set_option maxRecDepth 100000 in
theorem sg_X1_hasPromise_0 {g : ev_G} {S : ev_S} {Q : ev_O → ev_S → Prop} (a : Nat) (x0 : Int32) (hQ : ((j_at (S.1 (a + 8)) 61 x0) = (-1) → (
    Q (.inl (some (ev_i 0))) S)) ∧
  (¬ ((j_at (S.1 (a + 8)) 61 x0) = (-1)) → (
    Q (.inl (some (ev_i 1))) S))) : ev_Cv g m_X1_hasPromise 2 0 [ev_o 1 a, ev_i x0] S Q := by
  refine ev_enter (by decide) rfl rfl (Nat.le_of_ble_eq_true rfl) ?_
  show ev_E g m_X1_hasPromise 2 0 0 [some (ev_o 1 a), some (ev_i x0)] [] S Q
  refine ev_aload_n (ev_o 1 a) dX1_hasPromise_0 rfl rfl ?_
  refine gf_1_4 dX1_hasPromise_1 kw_271 ?_
  refine ev_iload_n (x0) dX1_hasPromise_4 rfl ?_
  refine ev_fN ms_X9_at 1 [ev_y 61 (a + 8), ev_i x0] [] dX1_hasPromise_5 (List.mem_of_getElem? (i := 28) rfl) rfl (by decide) (Nat.le_of_ble_eq_true rfl) (sp_X9_at 61 (a + 8) x0) ?_ rfl
  refine ev_iconst (-1) dX1_hasPromise_8 rfl ?_
  refine ev_icmp_eq 16 dX1_hasPromise_9 (by decide) (fun c1 => ?_) (fun c1 => ?_)
  · replace hQ := hQ.1 c1
    refine ev_iconst (0) dX1_hasPromise_16 rfl ?_
    exact ev_ireturn .boolean dX1_hasPromise_17 rfl rfl hQ
  · replace hQ := hQ.2 c1
    refine ev_iconst (1) dX1_hasPromise_12 rfl ?_
    refine ev_goto 17 dX1_hasPromise_13 (by decide) ?_
    exact ev_ireturn .boolean dX1_hasPromise_17 rfl rfl hQ
set_option maxHeartbeats 4000000 in
set_option maxRecDepth 100000 in
theorem sp_X1_hasPromise {g : ev_G} {S : ev_S} (a : Nat) (x0 : Int32)  : ev_Fn g m_X1_hasPromise 2 [ev_o 1 a, ev_i x0] S (some (ev_i (if (j_at (S.1 (a + 8)) 61 x0) = (-1) then 0 else 1))) S := by
  intro Q hQ
  refine sg_X1_hasPromise_0 a x0 ?_
  refine ⟨fun c1 => ?_, fun c1 => ?_⟩
  · rw [if_pos c1] at hQ
    exact hQ
  · rw [if_neg c1] at hQ
    exact hQ
set_option maxHeartbeats 4000000 in
set_option maxRecDepth 100000 in
theorem sg_X0_moveAt_0 {g : ev_G} {S : ev_S} {Q : ev_O → ev_S → Prop} (a : Nat) (x0 : Int32) (hQ : (x0 < 1 → (
    Q (.inl (some (ev_i (-1)))) S)) ∧
  (¬ (x0 < 1) → (
    ((S.1 a 6) < x0 → (
      Q (.inl (some (ev_i (-1)))) S)) ∧
    (¬ ((S.1 a 6) < x0) → (
      Q (.inl (some (ev_i (j_at (S.1 (a + 3)) 61 x0)))) S))))) : ev_Cv g m_X0_moveAt 2 0 [ev_o 0 a, ev_i x0] S Q := by
  refine ev_enter (by decide) rfl rfl (Nat.le_of_ble_eq_true rfl) ?_
  show ev_E g m_X0_moveAt 2 0 0 [some (ev_o 0 a), some (ev_i x0)] [] S Q
  refine ev_iload_n (x0) dX0_moveAt_0 rfl ?_
  refine ev_iconst (1) dX0_moveAt_1 rfl ?_
  refine ev_icmp_lt 24 dX0_moveAt_2 (by decide) (fun c1 => ?_) (fun c1 => ?_)
  · replace hQ := hQ.1 c1
    refine ev_iconst (-1) dX0_moveAt_24 rfl ?_
    exact ev_ireturn .int dX0_moveAt_25 rfl rfl hQ
  · replace hQ := hQ.2 c1
    refine ev_iload_n (x0) dX0_moveAt_5 rfl ?_
    refine ev_aload_n (ev_o 0 a) dX0_moveAt_6 rfl rfl ?_
    refine gf_0_6 dX0_moveAt_7 kw_245 ?_
    refine ev_icmp_gt 24 dX0_moveAt_10 (by decide) (fun c2 => ?_) (fun c2 => ?_)
    · replace hQ := hQ.1 c2
      refine ev_iconst (-1) dX0_moveAt_24 rfl ?_
      exact ev_ireturn .int dX0_moveAt_25 rfl rfl hQ
    · replace hQ := hQ.2 c2
      refine ev_aload_n (ev_o 0 a) dX0_moveAt_13 rfl rfl ?_
      refine gf_0_2 dX0_moveAt_14 kw_241 ?_
      refine ev_iload_n (x0) dX0_moveAt_17 rfl ?_
      refine ev_fN ms_X9_at 1 [ev_y 61 (a + 3), ev_i x0] [] dX0_moveAt_18 (List.mem_of_getElem? (i := 11) rfl) rfl (by decide) (Nat.le_of_ble_eq_true rfl) (sp_X9_at 61 (a + 3) x0) ?_ rfl
      refine ev_goto 25 dX0_moveAt_21 (by decide) ?_
      exact ev_ireturn .int dX0_moveAt_25 rfl rfl hQ
def f_X0_moveAt (S : ev_S) (a : Nat) (x0 : Int32) : Int32 := if x0 < 1 then ((-1)) else (if (S.1 a 6) < x0 then ((-1)) else ((j_at (S.1 (a + 3)) 61 x0)))
set_option maxHeartbeats 4000000 in
set_option maxRecDepth 100000 in
theorem sp_X0_moveAt {g : ev_G} {S : ev_S} (a : Nat) (x0 : Int32)  : ev_Fn g m_X0_moveAt 2 [ev_o 0 a, ev_i x0] S (some (ev_i (f_X0_moveAt S a x0))) S := by
  intro Q hQ
  refine sg_X0_moveAt_0 a x0 ?_
  unfold f_X0_moveAt at hQ
  refine ⟨fun c1 => ?_, fun c1 => ?_⟩
  · rw [if_pos c1] at hQ
    exact hQ
  · rw [if_neg c1] at hQ
    refine ⟨fun c2 => ?_, fun c2 => ?_⟩
    · rw [if_pos c2] at hQ
      exact hQ
    · rw [if_neg c2] at hQ
      exact hQ
set_option maxHeartbeats 4000000 in
set_option maxRecDepth 100000 in
theorem sg_X1_noteWait_0 {g : ev_G} {S : ev_S} {Q : ev_O → ev_S → Prop} (a : Nat) (x0 : Int32) (hQ : ((S.1 a 7) = (-1) → (
    Q (.inl none) S)) ∧
  (¬ ((S.1 a 7) = (-1)) → (
    ∀ S1 : ev_S, S1 = (ev_up S a 8 ((S.1 a 8) + 1)) → (
      ∀ S2 : ev_S, S2 = (ev_up S1 a 9 ((S.1 a 9) + (x0 - (S.1 a 7)))) → (
        ∀ S3 : ev_S, S3 = (ev_up S2 a 10 (ev_max (S.1 a 10) (x0 - (S.1 a 7)))) → (
          Q (.inl none) S3)))))) : ev_Cv g m_X1_noteWait 1 0 [ev_o 1 a, ev_i x0] S Q := by
  refine ev_enter (by decide) rfl rfl (Nat.le_of_ble_eq_true rfl) ?_
  show ev_E g m_X1_noteWait 1 0 0 [some (ev_o 1 a), some (ev_i x0)] [] S Q
  refine ev_aload_n (ev_o 1 a) dX1_noteWait_0 rfl rfl ?_
  refine gf_1_7 dX1_noteWait_1 kw_274 ?_
  refine ev_iconst (-1) dX1_noteWait_4 rfl ?_
  refine ev_icmp_eq 50 dX1_noteWait_5 (by decide) (fun c1 => ?_) (fun c1 => ?_)
  · replace hQ := hQ.1 c1
    exact ev_return dX1_noteWait_50 rfl hQ
  · replace hQ := hQ.2 c1
    refine ev_aload_n (ev_o 1 a) dX1_noteWait_8 rfl rfl ?_
    refine ev_dup dX1_noteWait_9 rfl ?_
    refine gf_1_8 dX1_noteWait_10 kw_275 ?_
    refine ev_iconst (1) dX1_noteWait_13 rfl ?_
    refine ev_iadd dX1_noteWait_14 ?_
    refine pf_1_8 dX1_noteWait_15 kw_275 ?_
    refine ev_sub hQ (fun S1 hS1 hQ => ?_)
    refine ev_E.goal (pc' := 18) (L' := [some (ev_o 1 a), some (ev_i x0)]) (K' := []) (S' := S1) ?_ rfl rfl rfl hS1
    refine ev_aload_n (ev_o 1 a) dX1_noteWait_18 rfl rfl ?_
    refine ev_dup dX1_noteWait_19 rfl ?_
    refine gf_1_9 dX1_noteWait_20 kw_276 ?_
    refine ev_ke (j_rk hS1 (Or.inr (by decide))) ?_
    refine ev_iload_n (x0) dX1_noteWait_23 rfl ?_
    refine ev_aload_n (ev_o 1 a) dX1_noteWait_24 rfl rfl ?_
    refine gf_1_7 dX1_noteWait_25 kw_274 ?_
    refine ev_ke (j_rk hS1 (Or.inr (by decide))) ?_
    refine ev_isub dX1_noteWait_28 ?_
    refine ev_iadd dX1_noteWait_29 ?_
    refine pf_1_9 dX1_noteWait_30 kw_276 ?_
    refine ev_sub hQ (fun S2 hS2 hQ => ?_)
    refine ev_E.goal (pc' := 33) (L' := [some (ev_o 1 a), some (ev_i x0)]) (K' := []) (S' := S2) ?_ rfl rfl rfl hS2
    refine ev_aload_n (ev_o 1 a) dX1_noteWait_33 rfl rfl ?_
    refine ev_aload_n (ev_o 1 a) dX1_noteWait_34 rfl rfl ?_
    refine gf_1_10 dX1_noteWait_35 kw_277 ?_
    refine ev_ke ((j_rk hS2 (Or.inr (by decide))).trans (j_rk hS1 (Or.inr (by decide)))) ?_
    refine ev_iload_n (x0) dX1_noteWait_38 rfl ?_
    refine ev_aload_n (ev_o 1 a) dX1_noteWait_39 rfl rfl ?_
    refine gf_1_7 dX1_noteWait_40 kw_274 ?_
    refine ev_ke ((j_rk hS2 (Or.inr (by decide))).trans (j_rk hS1 (Or.inr (by decide)))) ?_
    refine ev_isub dX1_noteWait_43 ?_
    refine ev_mathMax dX1_noteWait_44 kw_947 kw_948 kw_123 kw_949 (Nat.le_of_ble_eq_true rfl) ?_
    refine pf_1_10 dX1_noteWait_47 kw_277 ?_
    refine ev_sub hQ (fun S3 hS3 hQ => ?_)
    refine ev_E.goal (pc' := 50) (L' := [some (ev_o 1 a), some (ev_i x0)]) (K' := []) (S' := S3) ?_ rfl rfl rfl hS3
    exact ev_return dX1_noteWait_50 rfl hQ
set_option maxHeartbeats 4000000 in
set_option maxRecDepth 100000 in
theorem sg_X1_settle_0 {g : ev_G} {S : ev_S} {Q : ev_O → ev_S → Prop} (a : Nat) (x0 : Int32) (hQ : ev_E g m_X1_settle 4 0 2 [some (ev_o 1 a), some (ev_i x0), some (ev_i 0), none, none, none] [] S Q) : ev_Cv g m_X1_settle 4 0 [ev_o 1 a, ev_i x0] S Q := by
  refine ev_enter (by decide) rfl rfl (Nat.le_of_ble_eq_true rfl) ?_
  show ev_E g m_X1_settle 4 0 0 [some (ev_o 1 a), some (ev_i x0), none, none, none, none] [] S Q
  refine ev_iconst (0) dX1_settle_0 rfl ?_
  refine ev_istore_n dX1_settle_1 (Nat.le_of_ble_eq_true rfl) (ev_hw rfl) ?_
  show ev_E g m_X1_settle 4 0 2 [some (ev_o 1 a), some (ev_i x0), some (ev_i 0), none, none, none] [] S Q
  exact hQ
set_option maxHeartbeats 4000000 in
set_option maxRecDepth 100000 in
theorem sg_X1_settle_2 {g : ev_G} {S : ev_S} {Q : ev_O → ev_S → Prop} (a : Nat) (u1 : Int32) (u2 : Int32) (hQ : (60 < u2 → (
    Q (.inl none) S)) ∧
  (¬ (60 < u2) → (
    ((t_X0_isFinished S (a + 1)) = true → (
      Q (.inl none) S)) ∧
    (¬ ((t_X0_isFinished S (a + 1)) = true) → (
      ((f_X9_moverOf ((S.1 (a + 1) 6) + 1)) = (S.1 a 0) → (
        ((j_at (S.1 (a + 6)) 61 ((S.1 (a + 1) 6) + 1)) = (-1) → (
          ((j_at (S.1 (a + 8)) 61 ((S.1 (a + 1) 6) + 1)) = (-1) → (
            Q (.inl none) S)) ∧
          (¬ ((j_at (S.1 (a + 8)) 61 ((S.1 (a + 1) 6) + 1)) = (-1)) → (
            ((j_at (S.1 (a + 7)) 61 ((S.1 (a + 1) 6) + 1)) = (f_X0_moveAt S (a + 1) (((S.1 (a + 1) 6) + 1) - 1)) → (
              ∀ S8 : ev_S, S8 = (ev_up S a 6 ((S.1 a 6) + 1)) → (
                ev_Cv g m_X0_play 3 0 [ev_o 0 (a + 1), ev_i (j_at (S.1 (a + 8)) 61 ((S.1 (a + 1) 6) + 1))] S8 (fun o S9 => o = .inl none ∧ (
                  ∀ S10 : ev_S, S10 = (ev_up S9 a 7 u1) → (
                    ev_E g m_X1_settle 4 0 2 [some (ev_o 1 a), some (ev_i u1), some (ev_i (u2 + 1)), none, none, none] [] S10 Q)))))) ∧
            (¬ ((j_at (S.1 (a + 7)) 61 ((S.1 (a + 1) 6) + 1)) = (f_X0_moveAt S (a + 1) (((S.1 (a + 1) 6) + 1) - 1))) → (
              Q (.inl none) S)))))) ∧
        (¬ ((j_at (S.1 (a + 6)) 61 ((S.1 (a + 1) 6) + 1)) = (-1)) → (
          ∀ S11 : ev_S, S11 = (j_put S (a + 6) 61 ((S.1 (a + 1) 6) + 1) (-1)) → (
            ∀ S12 : ev_S, S12 = (ev_up S11 a 5 ((S11.1 a 5) - 1)) → (
              ev_Cv g m_X0_play 3 0 [ev_o 0 (a + 1), ev_i (j_at (S.1 (a + 6)) 61 ((S.1 (a + 1) 6) + 1))] S12 (fun o S13 => o = .inl none ∧ (
                ∀ S14 : ev_S, S14 = (ev_up S13 a 7 u1) → (
                  ev_E g m_X1_settle 4 0 2 [some (ev_o 1 a), some (ev_i u1), some (ev_i (u2 + 1)), none, none, none] [] S14 Q))))))))) ∧
      (¬ ((f_X9_moverOf ((S.1 (a + 1) 6) + 1)) = (S.1 a 0)) → (
        ((j_at (S.1 (a + 6)) 61 ((S.1 (a + 1) 6) + 1)) = (-1) → (
          ((j_at (S.1 (a + 8)) 61 ((S.1 (a + 1) 6) + 1)) = (-1) → (
            Q (.inl none) S)) ∧
          (¬ ((j_at (S.1 (a + 8)) 61 ((S.1 (a + 1) 6) + 1)) = (-1)) → (
            ((j_at (S.1 (a + 7)) 61 ((S.1 (a + 1) 6) + 1)) = (f_X0_moveAt S (a + 1) (((S.1 (a + 1) 6) + 1) - 1)) → (
              ∀ S1 : ev_S, S1 = (ev_up S a 6 ((S.1 a 6) + 0)) → (
                ev_Cv g m_X0_play 3 0 [ev_o 0 (a + 1), ev_i (j_at (S.1 (a + 8)) 61 ((S.1 (a + 1) 6) + 1))] S1 (fun o S2 => o = .inl none ∧ (
                  ev_Cv g m_X1_noteWait 1 0 [ev_o 1 a, ev_i u1] S2 (fun o S3 => o = .inl none ∧ (
                    ev_E g m_X1_settle 4 0 2 [some (ev_o 1 a), some (ev_i u1), some (ev_i (u2 + 1)), none, none, none] [] S3 Q))))))) ∧
            (¬ ((j_at (S.1 (a + 7)) 61 ((S.1 (a + 1) 6) + 1)) = (f_X0_moveAt S (a + 1) (((S.1 (a + 1) 6) + 1) - 1))) → (
              Q (.inl none) S)))))) ∧
        (¬ ((j_at (S.1 (a + 6)) 61 ((S.1 (a + 1) 6) + 1)) = (-1)) → (
          ∀ S4 : ev_S, S4 = (j_put S (a + 6) 61 ((S.1 (a + 1) 6) + 1) (-1)) → (
            ∀ S5 : ev_S, S5 = (ev_up S4 a 5 ((S4.1 a 5) - 1)) → (
              ev_Cv g m_X0_play 3 0 [ev_o 0 (a + 1), ev_i (j_at (S.1 (a + 6)) 61 ((S.1 (a + 1) 6) + 1))] S5 (fun o S6 => o = .inl none ∧ (
                ev_Cv g m_X1_noteWait 1 0 [ev_o 1 a, ev_i u1] S6 (fun o S7 => o = .inl none ∧ (
                  ev_E g m_X1_settle 4 0 2 [some (ev_o 1 a), some (ev_i u1), some (ev_i (u2 + 1)), none, none, none] [] S7 Q))))))))))))))) : ev_E g m_X1_settle 4 0 2 [some (ev_o 1 a), some (ev_i u1), some (ev_i u2), none, none, none] [] S Q := by
  refine ev_iload_n (u2) dX1_settle_2 rfl ?_
  refine ev_bipush (60) dX1_settle_3 (by decide) ?_
  refine ev_icmp_gt 177 dX1_settle_5 (by decide) (fun c1 => ?_) (fun c1 => ?_)
  · replace hQ := hQ.1 c1
    exact ev_return dX1_settle_177 rfl hQ
  · replace hQ := hQ.2 c1
    refine ev_aload_n (ev_o 1 a) dX1_settle_8 rfl rfl ?_
    refine gf_1_1 dX1_settle_9 kw_268 ?_
    refine ev_fV mv_X0_isFinished 3 0 [] [] dX1_settle_12 kw_872 rfl (by decide) rfl (by decide) (Nat.le_of_ble_eq_true rfl) (sp_X0_isFinished (a + 1)) ?_ rfl
    by_cases c2 : (t_X0_isFinished S (a + 1)) = true
    · rw [if_pos c2]
      replace hQ := hQ.1 c2
      refine ev_if_ne 177 dX1_settle_15 (by decide) (fun _ => ?_) (fun h9 => absurd h9 (by decide : ¬ ((1 : Int32) = 0)))
      exact ev_return dX1_settle_177 rfl hQ
    · rw [if_neg c2]
      replace hQ := hQ.2 c2
      refine ev_if_ne 177 dX1_settle_15 (by decide) (fun h9 => absurd (by decide : ((0 : Int32) = 0)) h9) (fun _ => ?_)
      refine ev_aload_n (ev_o 1 a) dX1_settle_18 rfl rfl ?_
      refine gf_1_1 dX1_settle_19 kw_268 ?_
      refine ev_fV mv_X0_nextNumber 1 0 [] [] dX1_settle_22 kw_877 rfl (by decide) rfl (by decide) (Nat.le_of_ble_eq_true rfl) (sp_X0_nextNumber (a + 1)) ?_ rfl
      refine ev_istore_n dX1_settle_25 (Nat.le_of_ble_eq_true rfl) (ev_hw rfl) ?_
      show ev_E g m_X1_settle 4 0 26 [some (ev_o 1 a), some (ev_i u1), some (ev_i u2), some (ev_i ((S.1 (a + 1) 6) + 1)), none, none] [] S Q
      refine ev_iload_n (((S.1 (a + 1) 6) + 1)) dX1_settle_26 rfl ?_
      refine ev_fN ms_X9_moverOf 1 [ev_i ((S.1 (a + 1) 6) + 1)] [] dX1_settle_27 (List.mem_of_getElem? (i := 22) rfl) rfl (by decide) (Nat.le_of_ble_eq_true rfl) (sp_X9_moverOf ((S.1 (a + 1) 6) + 1)) ?_ rfl
      refine ev_aload_n (ev_o 1 a) dX1_settle_30 rfl rfl ?_
      refine gf_1_0 dX1_settle_31 kw_267 ?_
      refine ev_icmp_ne 41 dX1_settle_34 (by decide) (fun c3 => ?_) (fun c3 => ?_)
      · replace hQ := hQ.2 c3
        refine ev_iconst (0) dX1_settle_41 rfl ?_
        refine ev_istore dX1_settle_42 (Nat.le_of_ble_eq_true rfl) (ev_hw rfl) ?_
        show ev_E g m_X1_settle 4 0 44 [some (ev_o 1 a), some (ev_i u1), some (ev_i u2), some (ev_i ((S.1 (a + 1) 6) + 1)), some (ev_i 0), none] [] S Q
        refine ev_aload_n (ev_o 1 a) dX1_settle_44 rfl rfl ?_
        refine gf_1_2 dX1_settle_45 kw_269 ?_
        refine ev_iload_n (((S.1 (a + 1) 6) + 1)) dX1_settle_48 rfl ?_
        refine ev_fN ms_X9_at 1 [ev_y 61 (a + 6), ev_i ((S.1 (a + 1) 6) + 1)] [] dX1_settle_49 (List.mem_of_getElem? (i := 28) rfl) rfl (by decide) (Nat.le_of_ble_eq_true rfl) (sp_X9_at 61 (a + 6) ((S.1 (a + 1) 6) + 1)) ?_ rfl
        refine ev_istore dX1_settle_52 (Nat.le_of_ble_eq_true rfl) (ev_hw rfl) ?_
        show ev_E g m_X1_settle 4 0 54 [some (ev_o 1 a), some (ev_i u1), some (ev_i u2), some (ev_i ((S.1 (a + 1) 6) + 1)), some (ev_i 0), some (ev_i (j_at (S.1 (a + 6)) 61 ((S.1 (a + 1) 6) + 1)))] [] S Q
        refine ev_iload ((j_at (S.1 (a + 6)) 61 ((S.1 (a + 1) 6) + 1))) dX1_settle_54 rfl ?_
        refine ev_iconst (-1) dX1_settle_56 rfl ?_
        refine ev_icmp_eq 82 dX1_settle_57 (by decide) (fun c4 => ?_) (fun c4 => ?_)
        · replace hQ := hQ.1 c4
          refine ev_aload_n (ev_o 1 a) dX1_settle_82 rfl rfl ?_
          refine ev_iload_n (((S.1 (a + 1) 6) + 1)) dX1_settle_83 rfl ?_
          refine ev_fV mv_X1_hasPromise 2 1 [ev_i ((S.1 (a + 1) 6) + 1)] [] dX1_settle_84 kw_935 rfl (by decide) rfl (by decide) (Nat.le_of_ble_eq_true rfl) (sp_X1_hasPromise a ((S.1 (a + 1) 6) + 1)) ?_ rfl
          by_cases c5 : (j_at (S.1 (a + 8)) 61 ((S.1 (a + 1) 6) + 1)) = (-1)
          · rw [if_pos c5]
            replace hQ := hQ.1 c5
            refine ev_if_eq 143 dX1_settle_87 (by decide) (fun _ => ?_) (fun h9 => absurd (by decide : ((0 : Int32) = 0)) h9)
            exact ev_return dX1_settle_143 rfl hQ
          · rw [if_neg c5]
            replace hQ := hQ.2 c5
            refine ev_if_eq 143 dX1_settle_87 (by decide) (fun h9 => absurd h9 (by decide : ¬ ((1 : Int32) = 0))) (fun _ => ?_)
            refine ev_aload_n (ev_o 1 a) dX1_settle_90 rfl rfl ?_
            refine gf_1_3 dX1_settle_91 kw_270 ?_
            refine ev_iload_n (((S.1 (a + 1) 6) + 1)) dX1_settle_94 rfl ?_
            refine ev_fN ms_X9_at 1 [ev_y 61 (a + 7), ev_i ((S.1 (a + 1) 6) + 1)] [] dX1_settle_95 (List.mem_of_getElem? (i := 28) rfl) rfl (by decide) (Nat.le_of_ble_eq_true rfl) (sp_X9_at 61 (a + 7) ((S.1 (a + 1) 6) + 1)) ?_ rfl
            refine ev_aload_n (ev_o 1 a) dX1_settle_98 rfl rfl ?_
            refine gf_1_1 dX1_settle_99 kw_268 ?_
            refine ev_iload_n (((S.1 (a + 1) 6) + 1)) dX1_settle_102 rfl ?_
            refine ev_iconst (1) dX1_settle_103 rfl ?_
            refine ev_isub dX1_settle_104 ?_
            refine ev_fV mv_X0_moveAt 2 0 [ev_i (((S.1 (a + 1) 6) + 1) - 1)] [ev_i (j_at (S.1 (a + 7)) 61 ((S.1 (a + 1) 6) + 1))] dX1_settle_105 kw_939 rfl (by decide) rfl (by decide) (Nat.le_of_ble_eq_true rfl) (sp_X0_moveAt (a + 1) (((S.1 (a + 1) 6) + 1) - 1)) ?_ rfl
            refine ev_icmp_ne 143 dX1_settle_108 (by decide) (fun c6 => ?_) (fun c6 => ?_)
            · replace hQ := hQ.2 c6
              exact ev_return dX1_settle_143 rfl hQ
            · replace hQ := hQ.1 c6
              refine ev_aload_n (ev_o 1 a) dX1_settle_111 rfl rfl ?_
              refine gf_1_4 dX1_settle_112 kw_271 ?_
              refine ev_iload_n (((S.1 (a + 1) 6) + 1)) dX1_settle_115 rfl ?_
              refine ev_fN ms_X9_at 1 [ev_y 61 (a + 8), ev_i ((S.1 (a + 1) 6) + 1)] [] dX1_settle_116 (List.mem_of_getElem? (i := 28) rfl) rfl (by decide) (Nat.le_of_ble_eq_true rfl) (sp_X9_at 61 (a + 8) ((S.1 (a + 1) 6) + 1)) ?_ rfl
              refine ev_istore dX1_settle_119 (Nat.le_of_ble_eq_true rfl) (ev_hw rfl) ?_
              show ev_E g m_X1_settle 4 0 121 [some (ev_o 1 a), some (ev_i u1), some (ev_i u2), some (ev_i ((S.1 (a + 1) 6) + 1)), some (ev_i 0), some (ev_i (j_at (S.1 (a + 8)) 61 ((S.1 (a + 1) 6) + 1)))] [] S Q
              refine ev_aload_n (ev_o 1 a) dX1_settle_121 rfl rfl ?_
              refine ev_dup dX1_settle_122 rfl ?_
              refine gf_1_6 dX1_settle_123 kw_273 ?_
              refine ev_iload (0) dX1_settle_126 rfl ?_
              refine ev_if_eq 135 dX1_settle_128 (by decide) (fun _ => ?_) (fun h9 => absurd (by decide : ((0 : Int32) = 0)) h9)
              refine ev_iconst (0) dX1_settle_135 rfl ?_
              refine ev_iadd dX1_settle_136 ?_
              refine pf_1_6 dX1_settle_137 kw_273 ?_
              refine ev_sub hQ (fun S1 hS1 hQ => ?_)
              refine ev_E.goal (pc' := 140) (L' := [some (ev_o 1 a), some (ev_i u1), some (ev_i u2), some (ev_i ((S.1 (a + 1) 6) + 1)), some (ev_i 0), some (ev_i (j_at (S.1 (a + 8)) 61 ((S.1 (a + 1) 6) + 1)))]) (K' := []) (S' := S1) ?_ rfl rfl rfl hS1
              refine ev_goto 144 dX1_settle_140 (by decide) ?_
              refine ev_aload_n (ev_o 1 a) dX1_settle_144 rfl rfl ?_
              refine gf_1_1 dX1_settle_145 kw_268 ?_
              refine ev_iload ((j_at (S.1 (a + 8)) 61 ((S.1 (a + 1) 6) + 1))) dX1_settle_148 rfl ?_
              refine ev_cV mv_X0_play 3 0 0 [ev_i (j_at (S.1 (a + 8)) 61 ((S.1 (a + 1) 6) + 1))] [] dX1_settle_150 kw_909 rfl (by decide) rfl (by decide) (by decide) (Nat.le_of_ble_eq_true rfl) hQ ?_ rfl
              rintro o S2 ⟨rfl, hQ⟩
              show ev_E g m_X1_settle 4 0 153 [some (ev_o 1 a), some (ev_i u1), some (ev_i u2), some (ev_i ((S.1 (a + 1) 6) + 1)), some (ev_i 0), some (ev_i (j_at (S.1 (a + 8)) 61 ((S.1 (a + 1) 6) + 1)))] [] S2 Q
              refine ev_iload (0) dX1_settle_153 rfl ?_
              refine ev_if_eq 166 dX1_settle_155 (by decide) (fun _ => ?_) (fun h9 => absurd (by decide : ((0 : Int32) = 0)) h9)
              refine ev_aload_n (ev_o 1 a) dX1_settle_166 rfl rfl ?_
              refine ev_iload_n (u1) dX1_settle_167 rfl ?_
              refine ev_cV mv_X1_noteWait 1 0 1 [ev_i u1] [] dX1_settle_168 kw_943 rfl (by decide) rfl (by decide) (by decide) (Nat.le_of_ble_eq_true rfl) hQ ?_ rfl
              rintro o S3 ⟨rfl, hQ⟩
              show ev_E g m_X1_settle 4 0 171 [some (ev_o 1 a), some (ev_i u1), some (ev_i u2), some (ev_i ((S.1 (a + 1) 6) + 1)), some (ev_i 0), some (ev_i (j_at (S.1 (a + 8)) 61 ((S.1 (a + 1) 6) + 1)))] [] S3 Q
              refine ev_iinc u2 (1) dX1_settle_171 rfl (by decide) (ev_hw rfl) ?_
              show ev_E g m_X1_settle 4 0 174 [some (ev_o 1 a), some (ev_i u1), some (ev_i (u2 + 1)), some (ev_i ((S.1 (a + 1) 6) + 1)), some (ev_i 0), some (ev_i (j_at (S.1 (a + 8)) 61 ((S.1 (a + 1) 6) + 1)))] [] S3 Q
              refine ev_goto 2 dX1_settle_174 (by decide) ?_
              refine ev_fgm [true, true, true, false, false, false] ?_
              exact hQ
        · replace hQ := hQ.2 c4
          refine ev_aload_n (ev_o 1 a) dX1_settle_60 rfl rfl ?_
          refine gf_1_2 dX1_settle_61 kw_269 ?_
          refine ev_iload_n (((S.1 (a + 1) 6) + 1)) dX1_settle_64 rfl ?_
          refine ev_iconst (-1) dX1_settle_65 rfl ?_
          refine ev_fNn ms_X9_put 1 [ev_y 61 (a + 6), ev_i ((S.1 (a + 1) 6) + 1), ev_i (-1)] [] dX1_settle_66 (List.mem_of_getElem? (i := 29) rfl) rfl (by decide) (Nat.le_of_ble_eq_true rfl) (sp_X9_put 61 (a + 6) ((S.1 (a + 1) 6) + 1) (-1)) ?_ rfl
          refine ev_sub hQ (fun S4 hS4 hQ => ?_)
          refine ev_E.goal (pc' := 69) (L' := [some (ev_o 1 a), some (ev_i u1), some (ev_i u2), some (ev_i ((S.1 (a + 1) 6) + 1)), some (ev_i 0), some (ev_i (j_at (S.1 (a + 6)) 61 ((S.1 (a + 1) 6) + 1)))]) (K' := []) (S' := S4) ?_ rfl rfl rfl hS4
          refine ev_aload_n (ev_o 1 a) dX1_settle_69 rfl rfl ?_
          refine ev_dup dX1_settle_70 rfl ?_
          refine gf_1_5 dX1_settle_71 kw_272 ?_
          refine ev_iconst (1) dX1_settle_74 rfl ?_
          refine ev_isub dX1_settle_75 ?_
          refine pf_1_5 dX1_settle_76 kw_272 ?_
          refine ev_sub hQ (fun S5 hS5 hQ => ?_)
          refine ev_E.goal (pc' := 79) (L' := [some (ev_o 1 a), some (ev_i u1), some (ev_i u2), some (ev_i ((S.1 (a + 1) 6) + 1)), some (ev_i 0), some (ev_i (j_at (S.1 (a + 6)) 61 ((S.1 (a + 1) 6) + 1)))]) (K' := []) (S' := S5) ?_ rfl rfl rfl hS5
          refine ev_goto 144 dX1_settle_79 (by decide) ?_
          refine ev_aload_n (ev_o 1 a) dX1_settle_144 rfl rfl ?_
          refine gf_1_1 dX1_settle_145 kw_268 ?_
          refine ev_iload ((j_at (S.1 (a + 6)) 61 ((S.1 (a + 1) 6) + 1))) dX1_settle_148 rfl ?_
          refine ev_cV mv_X0_play 3 0 0 [ev_i (j_at (S.1 (a + 6)) 61 ((S.1 (a + 1) 6) + 1))] [] dX1_settle_150 kw_909 rfl (by decide) rfl (by decide) (by decide) (Nat.le_of_ble_eq_true rfl) hQ ?_ rfl
          rintro o S6 ⟨rfl, hQ⟩
          show ev_E g m_X1_settle 4 0 153 [some (ev_o 1 a), some (ev_i u1), some (ev_i u2), some (ev_i ((S.1 (a + 1) 6) + 1)), some (ev_i 0), some (ev_i (j_at (S.1 (a + 6)) 61 ((S.1 (a + 1) 6) + 1)))] [] S6 Q
          refine ev_iload (0) dX1_settle_153 rfl ?_
          refine ev_if_eq 166 dX1_settle_155 (by decide) (fun _ => ?_) (fun h9 => absurd (by decide : ((0 : Int32) = 0)) h9)
          refine ev_aload_n (ev_o 1 a) dX1_settle_166 rfl rfl ?_
          refine ev_iload_n (u1) dX1_settle_167 rfl ?_
          refine ev_cV mv_X1_noteWait 1 0 1 [ev_i u1] [] dX1_settle_168 kw_943 rfl (by decide) rfl (by decide) (by decide) (Nat.le_of_ble_eq_true rfl) hQ ?_ rfl
          rintro o S7 ⟨rfl, hQ⟩
          show ev_E g m_X1_settle 4 0 171 [some (ev_o 1 a), some (ev_i u1), some (ev_i u2), some (ev_i ((S.1 (a + 1) 6) + 1)), some (ev_i 0), some (ev_i (j_at (S.1 (a + 6)) 61 ((S.1 (a + 1) 6) + 1)))] [] S7 Q
          refine ev_iinc u2 (1) dX1_settle_171 rfl (by decide) (ev_hw rfl) ?_
          show ev_E g m_X1_settle 4 0 174 [some (ev_o 1 a), some (ev_i u1), some (ev_i (u2 + 1)), some (ev_i ((S.1 (a + 1) 6) + 1)), some (ev_i 0), some (ev_i (j_at (S.1 (a + 6)) 61 ((S.1 (a + 1) 6) + 1)))] [] S7 Q
          refine ev_goto 2 dX1_settle_174 (by decide) ?_
          refine ev_fgm [true, true, true, false, false, false] ?_
          exact hQ
      · replace hQ := hQ.1 c3
        refine ev_iconst (1) dX1_settle_37 rfl ?_
        refine ev_goto 42 dX1_settle_38 (by decide) ?_
        refine ev_istore dX1_settle_42 (Nat.le_of_ble_eq_true rfl) (ev_hw rfl) ?_
        show ev_E g m_X1_settle 4 0 44 [some (ev_o 1 a), some (ev_i u1), some (ev_i u2), some (ev_i ((S.1 (a + 1) 6) + 1)), some (ev_i 1), none] [] S Q
        refine ev_aload_n (ev_o 1 a) dX1_settle_44 rfl rfl ?_
        refine gf_1_2 dX1_settle_45 kw_269 ?_
        refine ev_iload_n (((S.1 (a + 1) 6) + 1)) dX1_settle_48 rfl ?_
        refine ev_fN ms_X9_at 1 [ev_y 61 (a + 6), ev_i ((S.1 (a + 1) 6) + 1)] [] dX1_settle_49 (List.mem_of_getElem? (i := 28) rfl) rfl (by decide) (Nat.le_of_ble_eq_true rfl) (sp_X9_at 61 (a + 6) ((S.1 (a + 1) 6) + 1)) ?_ rfl
        refine ev_istore dX1_settle_52 (Nat.le_of_ble_eq_true rfl) (ev_hw rfl) ?_
        show ev_E g m_X1_settle 4 0 54 [some (ev_o 1 a), some (ev_i u1), some (ev_i u2), some (ev_i ((S.1 (a + 1) 6) + 1)), some (ev_i 1), some (ev_i (j_at (S.1 (a + 6)) 61 ((S.1 (a + 1) 6) + 1)))] [] S Q
        refine ev_iload ((j_at (S.1 (a + 6)) 61 ((S.1 (a + 1) 6) + 1))) dX1_settle_54 rfl ?_
        refine ev_iconst (-1) dX1_settle_56 rfl ?_
        refine ev_icmp_eq 82 dX1_settle_57 (by decide) (fun c7 => ?_) (fun c7 => ?_)
        · replace hQ := hQ.1 c7
          refine ev_aload_n (ev_o 1 a) dX1_settle_82 rfl rfl ?_
          refine ev_iload_n (((S.1 (a + 1) 6) + 1)) dX1_settle_83 rfl ?_
          refine ev_fV mv_X1_hasPromise 2 1 [ev_i ((S.1 (a + 1) 6) + 1)] [] dX1_settle_84 kw_935 rfl (by decide) rfl (by decide) (Nat.le_of_ble_eq_true rfl) (sp_X1_hasPromise a ((S.1 (a + 1) 6) + 1)) ?_ rfl
          by_cases c8 : (j_at (S.1 (a + 8)) 61 ((S.1 (a + 1) 6) + 1)) = (-1)
          · rw [if_pos c8]
            replace hQ := hQ.1 c8
            refine ev_if_eq 143 dX1_settle_87 (by decide) (fun _ => ?_) (fun h9 => absurd (by decide : ((0 : Int32) = 0)) h9)
            exact ev_return dX1_settle_143 rfl hQ
          · rw [if_neg c8]
            replace hQ := hQ.2 c8
            refine ev_if_eq 143 dX1_settle_87 (by decide) (fun h9 => absurd h9 (by decide : ¬ ((1 : Int32) = 0))) (fun _ => ?_)
            refine ev_aload_n (ev_o 1 a) dX1_settle_90 rfl rfl ?_
            refine gf_1_3 dX1_settle_91 kw_270 ?_
            refine ev_iload_n (((S.1 (a + 1) 6) + 1)) dX1_settle_94 rfl ?_
            refine ev_fN ms_X9_at 1 [ev_y 61 (a + 7), ev_i ((S.1 (a + 1) 6) + 1)] [] dX1_settle_95 (List.mem_of_getElem? (i := 28) rfl) rfl (by decide) (Nat.le_of_ble_eq_true rfl) (sp_X9_at 61 (a + 7) ((S.1 (a + 1) 6) + 1)) ?_ rfl
            refine ev_aload_n (ev_o 1 a) dX1_settle_98 rfl rfl ?_
            refine gf_1_1 dX1_settle_99 kw_268 ?_
            refine ev_iload_n (((S.1 (a + 1) 6) + 1)) dX1_settle_102 rfl ?_
            refine ev_iconst (1) dX1_settle_103 rfl ?_
            refine ev_isub dX1_settle_104 ?_
            refine ev_fV mv_X0_moveAt 2 0 [ev_i (((S.1 (a + 1) 6) + 1) - 1)] [ev_i (j_at (S.1 (a + 7)) 61 ((S.1 (a + 1) 6) + 1))] dX1_settle_105 kw_939 rfl (by decide) rfl (by decide) (Nat.le_of_ble_eq_true rfl) (sp_X0_moveAt (a + 1) (((S.1 (a + 1) 6) + 1) - 1)) ?_ rfl
            refine ev_icmp_ne 143 dX1_settle_108 (by decide) (fun c9 => ?_) (fun c9 => ?_)
            · replace hQ := hQ.2 c9
              exact ev_return dX1_settle_143 rfl hQ
            · replace hQ := hQ.1 c9
              refine ev_aload_n (ev_o 1 a) dX1_settle_111 rfl rfl ?_
              refine gf_1_4 dX1_settle_112 kw_271 ?_
              refine ev_iload_n (((S.1 (a + 1) 6) + 1)) dX1_settle_115 rfl ?_
              refine ev_fN ms_X9_at 1 [ev_y 61 (a + 8), ev_i ((S.1 (a + 1) 6) + 1)] [] dX1_settle_116 (List.mem_of_getElem? (i := 28) rfl) rfl (by decide) (Nat.le_of_ble_eq_true rfl) (sp_X9_at 61 (a + 8) ((S.1 (a + 1) 6) + 1)) ?_ rfl
              refine ev_istore dX1_settle_119 (Nat.le_of_ble_eq_true rfl) (ev_hw rfl) ?_
              show ev_E g m_X1_settle 4 0 121 [some (ev_o 1 a), some (ev_i u1), some (ev_i u2), some (ev_i ((S.1 (a + 1) 6) + 1)), some (ev_i 1), some (ev_i (j_at (S.1 (a + 8)) 61 ((S.1 (a + 1) 6) + 1)))] [] S Q
              refine ev_aload_n (ev_o 1 a) dX1_settle_121 rfl rfl ?_
              refine ev_dup dX1_settle_122 rfl ?_
              refine gf_1_6 dX1_settle_123 kw_273 ?_
              refine ev_iload (1) dX1_settle_126 rfl ?_
              refine ev_if_eq 135 dX1_settle_128 (by decide) (fun h9 => absurd h9 (by decide : ¬ ((1 : Int32) = 0))) (fun _ => ?_)
              refine ev_iconst (1) dX1_settle_131 rfl ?_
              refine ev_goto 136 dX1_settle_132 (by decide) ?_
              refine ev_iadd dX1_settle_136 ?_
              refine pf_1_6 dX1_settle_137 kw_273 ?_
              refine ev_sub hQ (fun S8 hS8 hQ => ?_)
              refine ev_E.goal (pc' := 140) (L' := [some (ev_o 1 a), some (ev_i u1), some (ev_i u2), some (ev_i ((S.1 (a + 1) 6) + 1)), some (ev_i 1), some (ev_i (j_at (S.1 (a + 8)) 61 ((S.1 (a + 1) 6) + 1)))]) (K' := []) (S' := S8) ?_ rfl rfl rfl hS8
              refine ev_goto 144 dX1_settle_140 (by decide) ?_
              refine ev_aload_n (ev_o 1 a) dX1_settle_144 rfl rfl ?_
              refine gf_1_1 dX1_settle_145 kw_268 ?_
              refine ev_iload ((j_at (S.1 (a + 8)) 61 ((S.1 (a + 1) 6) + 1))) dX1_settle_148 rfl ?_
              refine ev_cV mv_X0_play 3 0 0 [ev_i (j_at (S.1 (a + 8)) 61 ((S.1 (a + 1) 6) + 1))] [] dX1_settle_150 kw_909 rfl (by decide) rfl (by decide) (by decide) (Nat.le_of_ble_eq_true rfl) hQ ?_ rfl
              rintro o S9 ⟨rfl, hQ⟩
              show ev_E g m_X1_settle 4 0 153 [some (ev_o 1 a), some (ev_i u1), some (ev_i u2), some (ev_i ((S.1 (a + 1) 6) + 1)), some (ev_i 1), some (ev_i (j_at (S.1 (a + 8)) 61 ((S.1 (a + 1) 6) + 1)))] [] S9 Q
              refine ev_iload (1) dX1_settle_153 rfl ?_
              refine ev_if_eq 166 dX1_settle_155 (by decide) (fun h9 => absurd h9 (by decide : ¬ ((1 : Int32) = 0))) (fun _ => ?_)
              refine ev_aload_n (ev_o 1 a) dX1_settle_158 rfl rfl ?_
              refine ev_iload_n (u1) dX1_settle_159 rfl ?_
              refine pf_1_7 dX1_settle_160 kw_274 ?_
              refine ev_sub hQ (fun S10 hS10 hQ => ?_)
              refine ev_E.goal (pc' := 163) (L' := [some (ev_o 1 a), some (ev_i u1), some (ev_i u2), some (ev_i ((S.1 (a + 1) 6) + 1)), some (ev_i 1), some (ev_i (j_at (S.1 (a + 8)) 61 ((S.1 (a + 1) 6) + 1)))]) (K' := []) (S' := S10) ?_ rfl rfl rfl hS10
              refine ev_goto 171 dX1_settle_163 (by decide) ?_
              refine ev_iinc u2 (1) dX1_settle_171 rfl (by decide) (ev_hw rfl) ?_
              show ev_E g m_X1_settle 4 0 174 [some (ev_o 1 a), some (ev_i u1), some (ev_i (u2 + 1)), some (ev_i ((S.1 (a + 1) 6) + 1)), some (ev_i 1), some (ev_i (j_at (S.1 (a + 8)) 61 ((S.1 (a + 1) 6) + 1)))] [] S10 Q
              refine ev_goto 2 dX1_settle_174 (by decide) ?_
              refine ev_fgm [true, true, true, false, false, false] ?_
              exact hQ
        · replace hQ := hQ.2 c7
          refine ev_aload_n (ev_o 1 a) dX1_settle_60 rfl rfl ?_
          refine gf_1_2 dX1_settle_61 kw_269 ?_
          refine ev_iload_n (((S.1 (a + 1) 6) + 1)) dX1_settle_64 rfl ?_
          refine ev_iconst (-1) dX1_settle_65 rfl ?_
          refine ev_fNn ms_X9_put 1 [ev_y 61 (a + 6), ev_i ((S.1 (a + 1) 6) + 1), ev_i (-1)] [] dX1_settle_66 (List.mem_of_getElem? (i := 29) rfl) rfl (by decide) (Nat.le_of_ble_eq_true rfl) (sp_X9_put 61 (a + 6) ((S.1 (a + 1) 6) + 1) (-1)) ?_ rfl
          refine ev_sub hQ (fun S11 hS11 hQ => ?_)
          refine ev_E.goal (pc' := 69) (L' := [some (ev_o 1 a), some (ev_i u1), some (ev_i u2), some (ev_i ((S.1 (a + 1) 6) + 1)), some (ev_i 1), some (ev_i (j_at (S.1 (a + 6)) 61 ((S.1 (a + 1) 6) + 1)))]) (K' := []) (S' := S11) ?_ rfl rfl rfl hS11
          refine ev_aload_n (ev_o 1 a) dX1_settle_69 rfl rfl ?_
          refine ev_dup dX1_settle_70 rfl ?_
          refine gf_1_5 dX1_settle_71 kw_272 ?_
          refine ev_iconst (1) dX1_settle_74 rfl ?_
          refine ev_isub dX1_settle_75 ?_
          refine pf_1_5 dX1_settle_76 kw_272 ?_
          refine ev_sub hQ (fun S12 hS12 hQ => ?_)
          refine ev_E.goal (pc' := 79) (L' := [some (ev_o 1 a), some (ev_i u1), some (ev_i u2), some (ev_i ((S.1 (a + 1) 6) + 1)), some (ev_i 1), some (ev_i (j_at (S.1 (a + 6)) 61 ((S.1 (a + 1) 6) + 1)))]) (K' := []) (S' := S12) ?_ rfl rfl rfl hS12
          refine ev_goto 144 dX1_settle_79 (by decide) ?_
          refine ev_aload_n (ev_o 1 a) dX1_settle_144 rfl rfl ?_
          refine gf_1_1 dX1_settle_145 kw_268 ?_
          refine ev_iload ((j_at (S.1 (a + 6)) 61 ((S.1 (a + 1) 6) + 1))) dX1_settle_148 rfl ?_
          refine ev_cV mv_X0_play 3 0 0 [ev_i (j_at (S.1 (a + 6)) 61 ((S.1 (a + 1) 6) + 1))] [] dX1_settle_150 kw_909 rfl (by decide) rfl (by decide) (by decide) (Nat.le_of_ble_eq_true rfl) hQ ?_ rfl
          rintro o S13 ⟨rfl, hQ⟩
          show ev_E g m_X1_settle 4 0 153 [some (ev_o 1 a), some (ev_i u1), some (ev_i u2), some (ev_i ((S.1 (a + 1) 6) + 1)), some (ev_i 1), some (ev_i (j_at (S.1 (a + 6)) 61 ((S.1 (a + 1) 6) + 1)))] [] S13 Q
          refine ev_iload (1) dX1_settle_153 rfl ?_
          refine ev_if_eq 166 dX1_settle_155 (by decide) (fun h9 => absurd h9 (by decide : ¬ ((1 : Int32) = 0))) (fun _ => ?_)
          refine ev_aload_n (ev_o 1 a) dX1_settle_158 rfl rfl ?_
          refine ev_iload_n (u1) dX1_settle_159 rfl ?_
          refine pf_1_7 dX1_settle_160 kw_274 ?_
          refine ev_sub hQ (fun S14 hS14 hQ => ?_)
          refine ev_E.goal (pc' := 163) (L' := [some (ev_o 1 a), some (ev_i u1), some (ev_i u2), some (ev_i ((S.1 (a + 1) 6) + 1)), some (ev_i 1), some (ev_i (j_at (S.1 (a + 6)) 61 ((S.1 (a + 1) 6) + 1)))]) (K' := []) (S' := S14) ?_ rfl rfl rfl hS14
          refine ev_goto 171 dX1_settle_163 (by decide) ?_
          refine ev_iinc u2 (1) dX1_settle_171 rfl (by decide) (ev_hw rfl) ?_
          show ev_E g m_X1_settle 4 0 174 [some (ev_o 1 a), some (ev_i u1), some (ev_i (u2 + 1)), some (ev_i ((S.1 (a + 1) 6) + 1)), some (ev_i 1), some (ev_i (j_at (S.1 (a + 6)) 61 ((S.1 (a + 1) 6) + 1)))] [] S14 Q
          refine ev_goto 2 dX1_settle_174 (by decide) ?_
          refine ev_fgm [true, true, true, false, false, false] ?_
          exact hQ
set_option maxHeartbeats 4000000 in
set_option maxRecDepth 100000 in
theorem sg_X2_makeMove_0 {g : ev_G} {S : ev_S} {Q : ev_O → ev_S → Prop} (a : Nat) (x0 : Int32) (x1 : Int32) (x2 : Int32) (x3 : Int32) (hQ : ev_Cv g m_X1_playOwn 4 0 [ev_o 1 (a_X2_deskOf a x0), ev_i ((x1 * 64) + x2), ev_i (S.1 a 4)] S (fun o S1 => o = .inl none ∧ (
    ev_Cv g m_X6_add 3 0 [ev_o 6 (a + 19), ev_i x0, ev_i ((S.1 ((a_X2_deskOf a x0) + 1) 6) + 1), ev_i ((x1 * 64) + x2), ev_i (-1), ev_i x3, ev_i (S1.1 a 4)] S1 (fun o S2 => ∃ v2_ : Int32, o = .inl (some (ev_i v2_)) ∧ (
      ev_Cv g m_X1_settle 4 0 [ev_o 1 (a_X2_deskOf a x0), ev_i (S2.1 a 4)] S2 (fun o S3 => o = .inl none ∧ (
        Q (.inl (some (ev_i ((S.1 ((a_X2_deskOf a x0) + 1) 6) + 1)))) S3))))))) : ev_Cv g m_X2_makeMove 5 0 [ev_o 2 a, ev_i x0, ev_i x1, ev_i x2, ev_i x3] S Q := by
  refine ev_enter (by decide) rfl rfl (Nat.le_of_ble_eq_true rfl) ?_
  show ev_E g m_X2_makeMove 5 0 0 [some (ev_o 2 a), some (ev_i x0), some (ev_i x1), some (ev_i x2), some (ev_i x3), none, none, none] [] S Q
  refine ev_aload_n (ev_o 2 a) dX2_makeMove_0 rfl rfl ?_
  refine ev_iload_n (x0) dX2_makeMove_1 rfl ?_
  refine ev_fV mv_X2_deskOf 1 2 [ev_i x0] [] dX2_makeMove_2 kw_581 rfl (by decide) rfl (by decide) (Nat.le_of_ble_eq_true rfl) (sp_X2_deskOf a x0) ?_ rfl
  refine ev_astore dX2_makeMove_5 rfl (Nat.le_of_ble_eq_true rfl) (ev_hw rfl) ?_
  show ev_E g m_X2_makeMove 5 0 7 [some (ev_o 2 a), some (ev_i x0), some (ev_i x1), some (ev_i x2), some (ev_i x3), some (ev_o 1 (a_X2_deskOf a x0)), none, none] [] S Q
  refine ev_aload (ev_o 1 (a_X2_deskOf a x0)) dX2_makeMove_7 rfl rfl ?_
  refine ev_fV mv_X1_board 1 1 [] [] dX2_makeMove_9 kw_585 rfl (by decide) rfl (by decide) (Nat.le_of_ble_eq_true rfl) (sp_X1_board (a_X2_deskOf a x0)) ?_ rfl
  refine ev_fV mv_X0_nextNumber 1 0 [] [] dX2_makeMove_12 kw_901 rfl (by decide) rfl (by decide) (Nat.le_of_ble_eq_true rfl) (sp_X0_nextNumber ((a_X2_deskOf a x0) + 1)) ?_ rfl
  refine ev_istore dX2_makeMove_15 (Nat.le_of_ble_eq_true rfl) (ev_hw rfl) ?_
  show ev_E g m_X2_makeMove 5 0 17 [some (ev_o 2 a), some (ev_i x0), some (ev_i x1), some (ev_i x2), some (ev_i x3), some (ev_o 1 (a_X2_deskOf a x0)), some (ev_i ((S.1 ((a_X2_deskOf a x0) + 1) 6) + 1)), none] [] S Q
  refine ev_iload_n (x1) dX2_makeMove_17 rfl ?_
  refine ev_iload_n (x2) dX2_makeMove_18 rfl ?_
  refine ev_fN ms_X9_moveOf 1 [ev_i x1, ev_i x2] [] dX2_makeMove_19 (List.mem_of_getElem? (i := 23) rfl) rfl (by decide) (Nat.le_of_ble_eq_true rfl) (sp_X9_moveOf x1 x2) ?_ rfl
  refine ev_istore dX2_makeMove_22 (Nat.le_of_ble_eq_true rfl) (ev_hw rfl) ?_
  show ev_E g m_X2_makeMove 5 0 24 [some (ev_o 2 a), some (ev_i x0), some (ev_i x1), some (ev_i x2), some (ev_i x3), some (ev_o 1 (a_X2_deskOf a x0)), some (ev_i ((S.1 ((a_X2_deskOf a x0) + 1) 6) + 1)), some (ev_i ((x1 * 64) + x2))] [] S Q
  refine ev_aload (ev_o 1 (a_X2_deskOf a x0)) dX2_makeMove_24 rfl rfl ?_
  refine ev_iload (((x1 * 64) + x2)) dX2_makeMove_26 rfl ?_
  refine ev_aload_n (ev_o 2 a) dX2_makeMove_28 rfl rfl ?_
  refine gf_2_4 dX2_makeMove_29 kw_390 ?_
  refine ev_cV mv_X1_playOwn 4 0 1 [ev_i ((x1 * 64) + x2), ev_i (S.1 a 4)] [] dX2_makeMove_32 kw_905 rfl (by decide) rfl (by decide) (by decide) (Nat.le_of_ble_eq_true rfl) hQ ?_ rfl
  rintro o S1 ⟨rfl, hQ⟩
  show ev_E g m_X2_makeMove 5 0 35 [some (ev_o 2 a), some (ev_i x0), some (ev_i x1), some (ev_i x2), some (ev_i x3), some (ev_o 1 (a_X2_deskOf a x0)), some (ev_i ((S.1 ((a_X2_deskOf a x0) + 1) 6) + 1)), some (ev_i ((x1 * 64) + x2))] [] S1 Q
  refine ev_aload_n (ev_o 2 a) dX2_makeMove_35 rfl rfl ?_
  refine gf_2_2 dX2_makeMove_36 kw_388 ?_
  refine ev_iload_n (x0) dX2_makeMove_39 rfl ?_
  refine ev_iload (((S.1 ((a_X2_deskOf a x0) + 1) 6) + 1)) dX2_makeMove_40 rfl ?_
  refine ev_iload (((x1 * 64) + x2)) dX2_makeMove_42 rfl ?_
  refine ev_iconst (-1) dX2_makeMove_44 rfl ?_
  refine ev_iload (x3) dX2_makeMove_45 rfl ?_
  refine ev_aload_n (ev_o 2 a) dX2_makeMove_47 rfl rfl ?_
  refine gf_2_4 dX2_makeMove_48 kw_390 ?_
  refine ev_cV mv_X6_add 3 0 6 [ev_i x0, ev_i ((S.1 ((a_X2_deskOf a x0) + 1) 6) + 1), ev_i ((x1 * 64) + x2), ev_i (-1), ev_i x3, ev_i (S1.1 a 4)] [] dX2_makeMove_51 kw_919 rfl (by decide) rfl (by decide) (by decide) (Nat.le_of_ble_eq_true rfl) hQ ?_ rfl
  rintro o S2 ⟨v2_, rfl, hQ⟩
  show ev_E g m_X2_makeMove 5 0 54 [some (ev_o 2 a), some (ev_i x0), some (ev_i x1), some (ev_i x2), some (ev_i x3), some (ev_o 1 (a_X2_deskOf a x0)), some (ev_i ((S.1 ((a_X2_deskOf a x0) + 1) 6) + 1)), some (ev_i ((x1 * 64) + x2))] [ev_i v2_] S2 Q
  refine ev_pop dX2_makeMove_54 rfl ?_
  refine ev_aload (ev_o 1 (a_X2_deskOf a x0)) dX2_makeMove_55 rfl rfl ?_
  refine ev_aload_n (ev_o 2 a) dX2_makeMove_57 rfl rfl ?_
  refine gf_2_4 dX2_makeMove_58 kw_390 ?_
  refine ev_cV mv_X1_settle 4 0 1 [ev_i (S2.1 a 4)] [] dX2_makeMove_61 kw_929 rfl (by decide) rfl (by decide) (by decide) (Nat.le_of_ble_eq_true rfl) hQ ?_ rfl
  rintro o S3 ⟨rfl, hQ⟩
  show ev_E g m_X2_makeMove 5 0 64 [some (ev_o 2 a), some (ev_i x0), some (ev_i x1), some (ev_i x2), some (ev_i x3), some (ev_o 1 (a_X2_deskOf a x0)), some (ev_i ((S.1 ((a_X2_deskOf a x0) + 1) 6) + 1)), some (ev_i ((x1 * 64) + x2))] [] S3 Q
  refine ev_iload (((S.1 ((a_X2_deskOf a x0) + 1) 6) + 1)) dX2_makeMove_64 rfl ?_
  exact ev_ireturn .int dX2_makeMove_66 rfl rfl hQ
set_option maxHeartbeats 4000000 in
set_option maxRecDepth 100000 in
theorem sg_X2_promiseFault_0 {g : ev_G} {S : ev_S} {Q : ev_O → ev_S → Prop} (a : Nat) (x0 : Int32) (x1 : Int32) (x2 : Int32) (x3 : Int32) (x4 : Int32) (x5 : Int32) (hQ : ((t_X9_isPlayer x0) = true → (
    ((t_X5_exists S (a + 20) x1) = true → (
      ((t_X2_isSquare S a x2) = true → (
        ((t_X2_isSquare S a x3) = true → (
          ((t_X2_isSquare S a x4) = true → (
            ((t_X2_isSquare S a x5) = true → (
              ((t_X0_isFinished S ((a_X2_deskOf a x0) + 1)) = true → (
                Q (.inl (some (ev_i 2))) S)) ∧
              (¬ ((t_X0_isFinished S ((a_X2_deskOf a x0) + 1)) = true) → (
                ((t_X1_mayPlay S (a_X2_deskOf a x0)) = true → (
                  Q (.inl (some (ev_i 2))) S)) ∧
                (¬ ((t_X1_mayPlay S (a_X2_deskOf a x0)) = true) → (
                  ((j_at (S.1 ((a_X2_deskOf a x0) + 8)) 61 (((S.1 ((a_X2_deskOf a x0) + 1) 6) + 1) + 1)) = (-1) → (
                    ((S.1 (a + 19) 13) < 80 → (
                      ((j_at (S.1 ((a_X2_deskOf a x0) + 2)) 64 x2) = (1 - x0) → (
                        ev_Cv g m_X0_canReach 3 0 [ev_o 0 ((a_X2_deskOf a x0) + 1), ev_i x2, ev_i x3] S (fun o S1 => ∃ v1_ : Bool, o = .inl (some (ev_i (if v1_ = true then 1 else 0))) ∧ (
                          (v1_ = true → (
                            ev_Cv g m_X0_copyFrom 2 0 [ev_o 0 (a + 36), ev_o 0 ((a_X2_deskOf a x0) + 1)] S1 (fun o S2 => o = .inl none ∧ (
                              ev_Cv g m_X0_play 3 0 [ev_o 0 (a + 36), ev_i ((x2 * 64) + x3)] S2 (fun o S3 => o = .inl none ∧ (
                                ((t_X0_isFinished S3 (a + 36)) = true → (
                                  Q (.inl (some (ev_i 3))) S3)) ∧
                                (¬ ((t_X0_isFinished S3 (a + 36)) = true) → (
                                  ((j_at (S3.1 (a + 37)) 64 x4) = x0 → (
                                    ev_Cv g m_X0_canReach 3 0 [ev_o 0 (a + 36), ev_i x4, ev_i x5] S3 (fun o S4 => ∃ v4_ : Bool, o = .inl (some (ev_i (if v4_ = true then 1 else 0))) ∧ (
                                      (v4_ = true → (
                                        Q (.inl (some (ev_i 0))) S4)) ∧
                                      (¬ (v4_ = true) → (
                                        Q (.inl (some (ev_i 3))) S4)))))) ∧
                                  (¬ ((j_at (S3.1 (a + 37)) 64 x4) = x0) → (
                                    Q (.inl (some (ev_i 3))) S3)))))))))) ∧
                          (¬ (v1_ = true) → (
                            Q (.inl (some (ev_i 3))) S1)))))) ∧
                      (¬ ((j_at (S.1 ((a_X2_deskOf a x0) + 2)) 64 x2) = (1 - x0)) → (
                        Q (.inl (some (ev_i 3))) S)))) ∧
                    (¬ ((S.1 (a + 19) 13) < 80) → (
                      Q (.inl (some (ev_i 2))) S)))) ∧
                  (¬ ((j_at (S.1 ((a_X2_deskOf a x0) + 8)) 61 (((S.1 ((a_X2_deskOf a x0) + 1) 6) + 1) + 1)) = (-1)) → (
                    Q (.inl (some (ev_i 2))) S)))))))) ∧
            (¬ ((t_X2_isSquare S a x5) = true) → (
              Q (.inl (some (ev_i 1))) S)))) ∧
          (¬ ((t_X2_isSquare S a x4) = true) → (
            Q (.inl (some (ev_i 1))) S)))) ∧
        (¬ ((t_X2_isSquare S a x3) = true) → (
          Q (.inl (some (ev_i 1))) S)))) ∧
      (¬ ((t_X2_isSquare S a x2) = true) → (
        Q (.inl (some (ev_i 1))) S)))) ∧
    (¬ ((t_X5_exists S (a + 20) x1) = true) → (
      Q (.inl (some (ev_i 1))) S)))) ∧
  (¬ ((t_X9_isPlayer x0) = true) → (
    Q (.inl (some (ev_i 1))) S))) : ev_Cv g m_X2_promiseFault 5 0 [ev_o 2 a, ev_i x0, ev_i x1, ev_i x2, ev_i x3, ev_i x4, ev_i x5] S Q := by
  refine ev_enter (by decide) rfl rfl (Nat.le_of_ble_eq_true rfl) ?_
  show ev_E g m_X2_promiseFault 5 0 0 [some (ev_o 2 a), some (ev_i x0), some (ev_i x1), some (ev_i x2), some (ev_i x3), some (ev_i x4), some (ev_i x5), none] [] S Q
  refine ev_iload_n (x0) dX2_promiseFault_0 rfl ?_
  refine ev_fN ms_X9_isPlayer 1 [ev_i x0] [] dX2_promiseFault_1 (List.mem_of_getElem? (i := 21) rfl) rfl (by decide) (Nat.le_of_ble_eq_true rfl) (sp_X9_isPlayer x0) ?_ rfl
  by_cases c1 : (t_X9_isPlayer x0) = true
  · rw [if_pos c1]
    replace hQ := hQ.1 c1
    refine ev_if_eq 53 dX2_promiseFault_4 (by decide) (fun h9 => absurd h9 (by decide : ¬ ((1 : Int32) = 0))) (fun _ => ?_)
    refine ev_aload_n (ev_o 2 a) dX2_promiseFault_7 rfl rfl ?_
    refine ev_fV mv_X2_passes 2 2 [] [] dX2_promiseFault_8 kw_863 rfl (by decide) rfl (by decide) (Nat.le_of_ble_eq_true rfl) (sp_X2_passes a) ?_ rfl
    refine ev_iload_n (x1) dX2_promiseFault_11 rfl ?_
    refine ev_fV mv_X5_exists 1 5 [ev_i x1] [] dX2_promiseFault_12 kw_864 rfl (by decide) rfl (by decide) (Nat.le_of_ble_eq_true rfl) (sp_X5_exists (a + 20) x1) ?_ rfl
    by_cases c2 : (t_X5_exists S (a + 20) x1) = true
    · rw [if_pos c2]
      replace hQ := hQ.1 c2
      refine ev_if_eq 53 dX2_promiseFault_15 (by decide) (fun h9 => absurd h9 (by decide : ¬ ((1 : Int32) = 0))) (fun _ => ?_)
      refine ev_aload_n (ev_o 2 a) dX2_promiseFault_18 rfl rfl ?_
      refine ev_iload_n (x2) dX2_promiseFault_19 rfl ?_
      refine ev_fV mv_X2_isSquare 3 2 [ev_i x2] [] dX2_promiseFault_20 kw_854 rfl (by decide) rfl (by decide) (Nat.le_of_ble_eq_true rfl) (sp_X2_isSquare a x2) ?_ rfl
      by_cases c3 : (t_X2_isSquare S a x2) = true
      · rw [if_pos c3]
        replace hQ := hQ.1 c3
        refine ev_if_eq 53 dX2_promiseFault_23 (by decide) (fun h9 => absurd h9 (by decide : ¬ ((1 : Int32) = 0))) (fun _ => ?_)
        refine ev_aload_n (ev_o 2 a) dX2_promiseFault_26 rfl rfl ?_
        refine ev_iload (x3) dX2_promiseFault_27 rfl ?_
        refine ev_fV mv_X2_isSquare 3 2 [ev_i x3] [] dX2_promiseFault_29 kw_854 rfl (by decide) rfl (by decide) (Nat.le_of_ble_eq_true rfl) (sp_X2_isSquare a x3) ?_ rfl
        by_cases c4 : (t_X2_isSquare S a x3) = true
        · rw [if_pos c4]
          replace hQ := hQ.1 c4
          refine ev_if_eq 53 dX2_promiseFault_32 (by decide) (fun h9 => absurd h9 (by decide : ¬ ((1 : Int32) = 0))) (fun _ => ?_)
          refine ev_aload_n (ev_o 2 a) dX2_promiseFault_35 rfl rfl ?_
          refine ev_iload (x4) dX2_promiseFault_36 rfl ?_
          refine ev_fV mv_X2_isSquare 3 2 [ev_i x4] [] dX2_promiseFault_38 kw_854 rfl (by decide) rfl (by decide) (Nat.le_of_ble_eq_true rfl) (sp_X2_isSquare a x4) ?_ rfl
          by_cases c5 : (t_X2_isSquare S a x4) = true
          · rw [if_pos c5]
            replace hQ := hQ.1 c5
            refine ev_if_eq 53 dX2_promiseFault_41 (by decide) (fun h9 => absurd h9 (by decide : ¬ ((1 : Int32) = 0))) (fun _ => ?_)
            refine ev_aload_n (ev_o 2 a) dX2_promiseFault_44 rfl rfl ?_
            refine ev_iload (x5) dX2_promiseFault_45 rfl ?_
            refine ev_fV mv_X2_isSquare 3 2 [ev_i x5] [] dX2_promiseFault_47 kw_854 rfl (by decide) rfl (by decide) (Nat.le_of_ble_eq_true rfl) (sp_X2_isSquare a x5) ?_ rfl
            by_cases c6 : (t_X2_isSquare S a x5) = true
            · rw [if_pos c6]
              replace hQ := hQ.1 c6
              refine ev_if_ne 55 dX2_promiseFault_50 (by decide) (fun _ => ?_) (fun h9 => absurd h9 (by decide : ¬ ((1 : Int32) = 0)))
              refine ev_aload_n (ev_o 2 a) dX2_promiseFault_55 rfl rfl ?_
              refine ev_iload_n (x0) dX2_promiseFault_56 rfl ?_
              refine ev_fV mv_X2_boardOf 2 2 [ev_i x0] [] dX2_promiseFault_57 kw_858 rfl (by decide) rfl (by decide) (Nat.le_of_ble_eq_true rfl) (sp_X2_boardOf a x0) ?_ rfl
              refine ev_astore dX2_promiseFault_60 rfl (Nat.le_of_ble_eq_true rfl) (ev_hw rfl) ?_
              show ev_E g m_X2_promiseFault 5 0 62 [some (ev_o 2 a), some (ev_i x0), some (ev_i x1), some (ev_i x2), some (ev_i x3), some (ev_i x4), some (ev_i x5), some (ev_o 0 ((a_X2_deskOf a x0) + 1))] [] S Q
              refine ev_aload (ev_o 0 ((a_X2_deskOf a x0) + 1)) dX2_promiseFault_62 rfl rfl ?_
              refine ev_fV mv_X0_isFinished 3 0 [] [] dX2_promiseFault_64 kw_958 rfl (by decide) rfl (by decide) (Nat.le_of_ble_eq_true rfl) (sp_X0_isFinished ((a_X2_deskOf a x0) + 1)) ?_ rfl
              by_cases c7 : (t_X0_isFinished S ((a_X2_deskOf a x0) + 1)) = true
              · rw [if_pos c7]
                replace hQ := hQ.1 c7
                refine ev_if_ne 109 dX2_promiseFault_67 (by decide) (fun _ => ?_) (fun h9 => absurd h9 (by decide : ¬ ((1 : Int32) = 0)))
                refine ev_iconst (2) dX2_promiseFault_109 rfl ?_
                exact ev_ireturn .int dX2_promiseFault_110 rfl rfl hQ
              · rw [if_neg c7]
                replace hQ := hQ.2 c7
                refine ev_if_ne 109 dX2_promiseFault_67 (by decide) (fun h9 => absurd (by decide : ((0 : Int32) = 0)) h9) (fun _ => ?_)
                refine ev_aload_n (ev_o 2 a) dX2_promiseFault_70 rfl rfl ?_
                refine ev_iload_n (x0) dX2_promiseFault_71 rfl ?_
                refine ev_fV mv_X2_deskOf 1 2 [ev_i x0] [] dX2_promiseFault_72 kw_581 rfl (by decide) rfl (by decide) (Nat.le_of_ble_eq_true rfl) (sp_X2_deskOf a x0) ?_ rfl
                refine ev_fV mv_X1_mayPlay 4 1 [] [] dX2_promiseFault_75 kw_868 rfl (by decide) rfl (by decide) (Nat.le_of_ble_eq_true rfl) (sp_X1_mayPlay (a_X2_deskOf a x0)) ?_ rfl
                by_cases c8 : (t_X1_mayPlay S (a_X2_deskOf a x0)) = true
                · rw [if_pos c8]
                  replace hQ := hQ.1 c8
                  refine ev_if_ne 109 dX2_promiseFault_78 (by decide) (fun _ => ?_) (fun h9 => absurd h9 (by decide : ¬ ((1 : Int32) = 0)))
                  refine ev_iconst (2) dX2_promiseFault_109 rfl ?_
                  exact ev_ireturn .int dX2_promiseFault_110 rfl rfl hQ
                · rw [if_neg c8]
                  replace hQ := hQ.2 c8
                  refine ev_if_ne 109 dX2_promiseFault_78 (by decide) (fun h9 => absurd (by decide : ((0 : Int32) = 0)) h9) (fun _ => ?_)
                  refine ev_aload_n (ev_o 2 a) dX2_promiseFault_81 rfl rfl ?_
                  refine ev_iload_n (x0) dX2_promiseFault_82 rfl ?_
                  refine ev_fV mv_X2_deskOf 1 2 [ev_i x0] [] dX2_promiseFault_83 kw_581 rfl (by decide) rfl (by decide) (Nat.le_of_ble_eq_true rfl) (sp_X2_deskOf a x0) ?_ rfl
                  refine ev_aload (ev_o 0 ((a_X2_deskOf a x0) + 1)) dX2_promiseFault_86 rfl rfl ?_
                  refine ev_fV mv_X0_nextNumber 1 0 [] [ev_o 1 (a_X2_deskOf a x0)] dX2_promiseFault_88 kw_901 rfl (by decide) rfl (by decide) (Nat.le_of_ble_eq_true rfl) (sp_X0_nextNumber ((a_X2_deskOf a x0) + 1)) ?_ rfl
                  refine ev_iconst (1) dX2_promiseFault_91 rfl ?_
                  refine ev_iadd dX2_promiseFault_92 ?_
                  refine ev_fV mv_X1_hasPromise 2 1 [ev_i (((S.1 ((a_X2_deskOf a x0) + 1) 6) + 1) + 1)] [] dX2_promiseFault_93 kw_959 rfl (by decide) rfl (by decide) (Nat.le_of_ble_eq_true rfl) (sp_X1_hasPromise (a_X2_deskOf a x0) (((S.1 ((a_X2_deskOf a x0) + 1) 6) + 1) + 1)) ?_ rfl
                  by_cases c9 : (j_at (S.1 ((a_X2_deskOf a x0) + 8)) 61 (((S.1 ((a_X2_deskOf a x0) + 1) 6) + 1) + 1)) = (-1)
                  · rw [if_pos c9]
                    replace hQ := hQ.1 c9
                    refine ev_if_ne 109 dX2_promiseFault_96 (by decide) (fun h9 => absurd (by decide : ((0 : Int32) = 0)) h9) (fun _ => ?_)
                    refine ev_aload_n (ev_o 2 a) dX2_promiseFault_99 rfl rfl ?_
                    refine gf_2_2 dX2_promiseFault_100 kw_388 ?_
                    refine ev_fV mv_X6_isFull 1 6 [] [] dX2_promiseFault_103 kw_884 rfl (by decide) rfl (by decide) (Nat.le_of_ble_eq_true rfl) (sp_X6_isFull (a + 19)) ?_ rfl
                    by_cases c10 : (S.1 (a + 19) 13) < 80
                    · rw [if_pos c10]
                      replace hQ := hQ.1 c10
                      refine ev_if_eq 111 dX2_promiseFault_106 (by decide) (fun _ => ?_) (fun h9 => absurd (by decide : ((0 : Int32) = 0)) h9)
                      refine ev_aload (ev_o 0 ((a_X2_deskOf a x0) + 1)) dX2_promiseFault_111 rfl rfl ?_
                      refine ev_iload_n (x2) dX2_promiseFault_113 rfl ?_
                      refine ev_fV mv_X0_ownerOn 2 0 [ev_i x2] [] dX2_promiseFault_114 kw_888 rfl (by decide) rfl (by decide) (Nat.le_of_ble_eq_true rfl) (sp_X0_ownerOn ((a_X2_deskOf a x0) + 1) x2) ?_ rfl
                      refine ev_iconst (1) dX2_promiseFault_117 rfl ?_
                      refine ev_iload_n (x0) dX2_promiseFault_118 rfl ?_
                      refine ev_isub dX2_promiseFault_119 ?_
                      refine ev_icmp_ne 134 dX2_promiseFault_120 (by decide) (fun c11 => ?_) (fun c11 => ?_)
                      · replace hQ := hQ.2 c11
                        refine ev_iconst (3) dX2_promiseFault_134 rfl ?_
                        exact ev_ireturn .int dX2_promiseFault_135 rfl rfl hQ
                      · replace hQ := hQ.1 c11
                        refine ev_aload (ev_o 0 ((a_X2_deskOf a x0) + 1)) dX2_promiseFault_123 rfl rfl ?_
                        refine ev_iload_n (x2) dX2_promiseFault_125 rfl ?_
                        refine ev_iload (x3) dX2_promiseFault_126 rfl ?_
                        refine ev_cV mv_X0_canReach 3 0 0 [ev_i x2, ev_i x3] [] dX2_promiseFault_128 kw_889 rfl (by decide) rfl (by decide) (by decide) (Nat.le_of_ble_eq_true rfl) hQ ?_ rfl
                        rintro o S1 ⟨v1_, rfl, hQ⟩
                        show ev_E g m_X2_promiseFault 5 0 131 [some (ev_o 2 a), some (ev_i x0), some (ev_i x1), some (ev_i x2), some (ev_i x3), some (ev_i x4), some (ev_i x5), some (ev_o 0 ((a_X2_deskOf a x0) + 1))] [ev_i (if v1_ = true then 1 else 0)] S1 Q
                        by_cases c12 : v1_ = true
                        · rw [if_pos c12]
                          replace hQ := hQ.1 c12
                          refine ev_if_ne 136 dX2_promiseFault_131 (by decide) (fun _ => ?_) (fun h9 => absurd h9 (by decide : ¬ ((1 : Int32) = 0)))
                          refine ev_aload_n (ev_o 2 a) dX2_promiseFault_136 rfl rfl ?_
                          refine gf_2_3 dX2_promiseFault_137 kw_389 ?_
                          refine ev_aload (ev_o 0 ((a_X2_deskOf a x0) + 1)) dX2_promiseFault_140 rfl rfl ?_
                          refine ev_cV mv_X0_copyFrom 2 0 0 [ev_o 0 ((a_X2_deskOf a x0) + 1)] [] dX2_promiseFault_142 kw_960 rfl (by decide) rfl (by decide) (by decide) (Nat.le_of_ble_eq_true rfl) hQ ?_ rfl
                          rintro o S2 ⟨rfl, hQ⟩
                          show ev_E g m_X2_promiseFault 5 0 145 [some (ev_o 2 a), some (ev_i x0), some (ev_i x1), some (ev_i x2), some (ev_i x3), some (ev_i x4), some (ev_i x5), some (ev_o 0 ((a_X2_deskOf a x0) + 1))] [] S2 Q
                          refine ev_aload_n (ev_o 2 a) dX2_promiseFault_145 rfl rfl ?_
                          refine gf_2_3 dX2_promiseFault_146 kw_389 ?_
                          refine ev_iload_n (x2) dX2_promiseFault_149 rfl ?_
                          refine ev_iload (x3) dX2_promiseFault_150 rfl ?_
                          refine ev_fN ms_X9_moveOf 1 [ev_i x2, ev_i x3] [ev_o 0 (a + 36)] dX2_promiseFault_152 (List.mem_of_getElem? (i := 23) rfl) rfl (by decide) (Nat.le_of_ble_eq_true rfl) (sp_X9_moveOf x2 x3) ?_ rfl
                          refine ev_cV mv_X0_play 3 0 0 [ev_i ((x2 * 64) + x3)] [] dX2_promiseFault_155 kw_961 rfl (by decide) rfl (by decide) (by decide) (Nat.le_of_ble_eq_true rfl) hQ ?_ rfl
                          rintro o S3 ⟨rfl, hQ⟩
                          show ev_E g m_X2_promiseFault 5 0 158 [some (ev_o 2 a), some (ev_i x0), some (ev_i x1), some (ev_i x2), some (ev_i x3), some (ev_i x4), some (ev_i x5), some (ev_o 0 ((a_X2_deskOf a x0) + 1))] [] S3 Q
                          refine ev_aload_n (ev_o 2 a) dX2_promiseFault_158 rfl rfl ?_
                          refine gf_2_3 dX2_promiseFault_159 kw_389 ?_
                          refine ev_fV mv_X0_isFinished 3 0 [] [] dX2_promiseFault_162 kw_958 rfl (by decide) rfl (by decide) (Nat.le_of_ble_eq_true rfl) (sp_X0_isFinished (a + 36)) ?_ rfl
                          by_cases c13 : (t_X0_isFinished S3 (a + 36)) = true
                          · rw [if_pos c13]
                            replace hQ := hQ.1 c13
                            refine ev_if_ne 199 dX2_promiseFault_165 (by decide) (fun _ => ?_) (fun h9 => absurd h9 (by decide : ¬ ((1 : Int32) = 0)))
                            refine ev_iconst (3) dX2_promiseFault_199 rfl ?_
                            exact ev_ireturn .int dX2_promiseFault_200 rfl rfl hQ
                          · rw [if_neg c13]
                            replace hQ := hQ.2 c13
                            refine ev_if_ne 199 dX2_promiseFault_165 (by decide) (fun h9 => absurd (by decide : ((0 : Int32) = 0)) h9) (fun _ => ?_)
                            refine ev_aload_n (ev_o 2 a) dX2_promiseFault_168 rfl rfl ?_
                            refine gf_2_3 dX2_promiseFault_169 kw_389 ?_
                            refine ev_iload (x4) dX2_promiseFault_172 rfl ?_
                            refine ev_fV mv_X0_ownerOn 2 0 [ev_i x4] [] dX2_promiseFault_174 kw_888 rfl (by decide) rfl (by decide) (Nat.le_of_ble_eq_true rfl) (sp_X0_ownerOn (a + 36) x4) ?_ rfl
                            refine ev_iload_n (x0) dX2_promiseFault_177 rfl ?_
                            refine ev_icmp_ne 199 dX2_promiseFault_178 (by decide) (fun c14 => ?_) (fun c14 => ?_)
                            · replace hQ := hQ.2 c14
                              refine ev_iconst (3) dX2_promiseFault_199 rfl ?_
                              exact ev_ireturn .int dX2_promiseFault_200 rfl rfl hQ
                            · replace hQ := hQ.1 c14
                              refine ev_aload_n (ev_o 2 a) dX2_promiseFault_181 rfl rfl ?_
                              refine gf_2_3 dX2_promiseFault_182 kw_389 ?_
                              refine ev_iload (x4) dX2_promiseFault_185 rfl ?_
                              refine ev_iload (x5) dX2_promiseFault_187 rfl ?_
                              refine ev_cV mv_X0_canReach 3 0 0 [ev_i x4, ev_i x5] [] dX2_promiseFault_189 kw_889 rfl (by decide) rfl (by decide) (by decide) (Nat.le_of_ble_eq_true rfl) hQ ?_ rfl
                              rintro o S4 ⟨v4_, rfl, hQ⟩
                              show ev_E g m_X2_promiseFault 5 0 192 [some (ev_o 2 a), some (ev_i x0), some (ev_i x1), some (ev_i x2), some (ev_i x3), some (ev_i x4), some (ev_i x5), some (ev_o 0 ((a_X2_deskOf a x0) + 1))] [ev_i (if v4_ = true then 1 else 0)] S4 Q
                              by_cases c15 : v4_ = true
                              · rw [if_pos c15]
                                replace hQ := hQ.1 c15
                                refine ev_if_eq 199 dX2_promiseFault_192 (by decide) (fun h9 => absurd h9 (by decide : ¬ ((1 : Int32) = 0))) (fun _ => ?_)
                                refine ev_iconst (0) dX2_promiseFault_195 rfl ?_
                                refine ev_goto 200 dX2_promiseFault_196 (by decide) ?_
                                exact ev_ireturn .int dX2_promiseFault_200 rfl rfl hQ
                              · rw [if_neg c15]
                                replace hQ := hQ.2 c15
                                refine ev_if_eq 199 dX2_promiseFault_192 (by decide) (fun _ => ?_) (fun h9 => absurd (by decide : ((0 : Int32) = 0)) h9)
                                refine ev_iconst (3) dX2_promiseFault_199 rfl ?_
                                exact ev_ireturn .int dX2_promiseFault_200 rfl rfl hQ
                        · rw [if_neg c12]
                          replace hQ := hQ.2 c12
                          refine ev_if_ne 136 dX2_promiseFault_131 (by decide) (fun h9 => absurd (by decide : ((0 : Int32) = 0)) h9) (fun _ => ?_)
                          refine ev_iconst (3) dX2_promiseFault_134 rfl ?_
                          exact ev_ireturn .int dX2_promiseFault_135 rfl rfl hQ
                    · rw [if_neg c10]
                      replace hQ := hQ.2 c10
                      refine ev_if_eq 111 dX2_promiseFault_106 (by decide) (fun h9 => absurd h9 (by decide : ¬ ((1 : Int32) = 0))) (fun _ => ?_)
                      refine ev_iconst (2) dX2_promiseFault_109 rfl ?_
                      exact ev_ireturn .int dX2_promiseFault_110 rfl rfl hQ
                  · rw [if_neg c9]
                    replace hQ := hQ.2 c9
                    refine ev_if_ne 109 dX2_promiseFault_96 (by decide) (fun _ => ?_) (fun h9 => absurd h9 (by decide : ¬ ((1 : Int32) = 0)))
                    refine ev_iconst (2) dX2_promiseFault_109 rfl ?_
                    exact ev_ireturn .int dX2_promiseFault_110 rfl rfl hQ
            · rw [if_neg c6]
              replace hQ := hQ.2 c6
              refine ev_if_ne 55 dX2_promiseFault_50 (by decide) (fun h9 => absurd (by decide : ((0 : Int32) = 0)) h9) (fun _ => ?_)
              refine ev_iconst (1) dX2_promiseFault_53 rfl ?_
              exact ev_ireturn .int dX2_promiseFault_54 rfl rfl hQ
          · rw [if_neg c5]
            replace hQ := hQ.2 c5
            refine ev_if_eq 53 dX2_promiseFault_41 (by decide) (fun _ => ?_) (fun h9 => absurd (by decide : ((0 : Int32) = 0)) h9)
            refine ev_iconst (1) dX2_promiseFault_53 rfl ?_
            exact ev_ireturn .int dX2_promiseFault_54 rfl rfl hQ
        · rw [if_neg c4]
          replace hQ := hQ.2 c4
          refine ev_if_eq 53 dX2_promiseFault_32 (by decide) (fun _ => ?_) (fun h9 => absurd (by decide : ((0 : Int32) = 0)) h9)
          refine ev_iconst (1) dX2_promiseFault_53 rfl ?_
          exact ev_ireturn .int dX2_promiseFault_54 rfl rfl hQ
      · rw [if_neg c3]
        replace hQ := hQ.2 c3
        refine ev_if_eq 53 dX2_promiseFault_23 (by decide) (fun _ => ?_) (fun h9 => absurd (by decide : ((0 : Int32) = 0)) h9)
        refine ev_iconst (1) dX2_promiseFault_53 rfl ?_
        exact ev_ireturn .int dX2_promiseFault_54 rfl rfl hQ
    · rw [if_neg c2]
      replace hQ := hQ.2 c2
      refine ev_if_eq 53 dX2_promiseFault_15 (by decide) (fun _ => ?_) (fun h9 => absurd (by decide : ((0 : Int32) = 0)) h9)
      refine ev_iconst (1) dX2_promiseFault_53 rfl ?_
      exact ev_ireturn .int dX2_promiseFault_54 rfl rfl hQ
  · rw [if_neg c1]
    replace hQ := hQ.2 c1
    refine ev_if_eq 53 dX2_promiseFault_4 (by decide) (fun _ => ?_) (fun h9 => absurd (by decide : ((0 : Int32) = 0)) h9)
    refine ev_iconst (1) dX2_promiseFault_53 rfl ?_
    exact ev_ireturn .int dX2_promiseFault_54 rfl rfl hQ
set_option maxHeartbeats 4000000 in
set_option maxRecDepth 100000 in
theorem sg_X1_keepPromise_0 {g : ev_G} {S : ev_S} {Q : ev_O → ev_S → Prop} (a : Nat) (x0 : Int32) (x1 : Int32) (x2 : Int32) (hQ : ∀ S1 : ev_S, S1 = (j_put S (a + 7) 61 x0 x1) → (
    ∀ S2 : ev_S, S2 = (j_put S1 (a + 8) 61 x0 x2) → (
      Q (.inl none) S2))) : ev_Cv g m_X1_keepPromise 2 0 [ev_o 1 a, ev_i x0, ev_i x1, ev_i x2] S Q := by
  refine ev_enter (by decide) rfl rfl (Nat.le_of_ble_eq_true rfl) ?_
  show ev_E g m_X1_keepPromise 2 0 0 [some (ev_o 1 a), some (ev_i x0), some (ev_i x1), some (ev_i x2)] [] S Q
  refine ev_aload_n (ev_o 1 a) dX1_keepPromise_0 rfl rfl ?_
  refine gf_1_3 dX1_keepPromise_1 kw_270 ?_
  refine ev_iload_n (x0) dX1_keepPromise_4 rfl ?_
  refine ev_iload_n (x1) dX1_keepPromise_5 rfl ?_
  refine ev_fNn ms_X9_put 1 [ev_y 61 (a + 7), ev_i x0, ev_i x1] [] dX1_keepPromise_6 (List.mem_of_getElem? (i := 29) rfl) rfl (by decide) (Nat.le_of_ble_eq_true rfl) (sp_X9_put 61 (a + 7) x0 x1) ?_ rfl
  refine ev_sub hQ (fun S1 hS1 hQ => ?_)
  refine ev_E.goal (pc' := 9) (L' := [some (ev_o 1 a), some (ev_i x0), some (ev_i x1), some (ev_i x2)]) (K' := []) (S' := S1) ?_ rfl rfl rfl hS1
  refine ev_aload_n (ev_o 1 a) dX1_keepPromise_9 rfl rfl ?_
  refine gf_1_4 dX1_keepPromise_10 kw_271 ?_
  refine ev_iload_n (x0) dX1_keepPromise_13 rfl ?_
  refine ev_iload_n (x2) dX1_keepPromise_14 rfl ?_
  refine ev_fNn ms_X9_put 1 [ev_y 61 (a + 8), ev_i x0, ev_i x2] [] dX1_keepPromise_15 (List.mem_of_getElem? (i := 29) rfl) rfl (by decide) (Nat.le_of_ble_eq_true rfl) (sp_X9_put 61 (a + 8) x0 x2) ?_ rfl
  refine ev_sub hQ (fun S2 hS2 hQ => ?_)
  refine ev_E.goal (pc' := 18) (L' := [some (ev_o 1 a), some (ev_i x0), some (ev_i x1), some (ev_i x2)]) (K' := []) (S' := S2) ?_ rfl rfl rfl hS2
  exact ev_return dX1_keepPromise_18 rfl hQ
set_option maxHeartbeats 4000000 in
set_option maxRecDepth 100000 in
theorem sp_X1_keepPromise {g : ev_G} {S : ev_S} (a : Nat) (x0 : Int32) (x1 : Int32) (x2 : Int32)  : ev_Fn g m_X1_keepPromise 2 [ev_o 1 a, ev_i x0, ev_i x1, ev_i x2] S none (j_put (j_put S (a + 7) 61 x0 x1) (a + 8) 61 x0 x2) := by
  intro Q hQ
  refine sg_X1_keepPromise_0 a x0 x1 x2 ?_
  intro S1 hS1
  intro S2 hS2
  subst hS2
  subst hS1
  exact hQ
set_option maxHeartbeats 4000000 in
set_option maxRecDepth 100000 in
theorem sg_X2_makePromise_0 {g : ev_G} {S : ev_S} {Q : ev_O → ev_S → Prop} (a : Nat) (x0 : Int32) (x1 : Int32) (x2 : Int32) (x3 : Int32) (hQ : ∀ S1 : ev_S, S1 = (j_put (j_put S ((a_X2_deskOf a x0) + 7) 61 (((S.1 ((a_X2_deskOf a x0) + 1) 6) + 1) + 1) x2) ((a_X2_deskOf a x0) + 8) 61 (((S.1 ((a_X2_deskOf a x0) + 1) 6) + 1) + 1) x3) → (
    ev_Cv g m_X6_add 3 0 [ev_o 6 (a + 19), ev_i x0, ev_i (((S.1 ((a_X2_deskOf a x0) + 1) 6) + 1) + 1), ev_i x3, ev_i x2, ev_i x1, ev_i (S1.1 a 4)] S1 (fun o S2 => ∃ v1_ : Int32, o = .inl (some (ev_i v1_)) ∧ (
      Q (.inl (some (ev_i (((S.1 ((a_X2_deskOf a x0) + 1) 6) + 1) + 1)))) S2)))) : ev_Cv g m_X2_makePromise 4 0 [ev_o 2 a, ev_i x0, ev_i x1, ev_i x2, ev_i x3] S Q := by
  refine ev_enter (by decide) rfl rfl (Nat.le_of_ble_eq_true rfl) ?_
  show ev_E g m_X2_makePromise 4 0 0 [some (ev_o 2 a), some (ev_i x0), some (ev_i x1), some (ev_i x2), some (ev_i x3), none] [] S Q
  refine ev_aload_n (ev_o 2 a) dX2_makePromise_0 rfl rfl ?_
  refine ev_iload_n (x0) dX2_makePromise_1 rfl ?_
  refine ev_fV mv_X2_boardOf 2 2 [ev_i x0] [] dX2_makePromise_2 kw_858 rfl (by decide) rfl (by decide) (Nat.le_of_ble_eq_true rfl) (sp_X2_boardOf a x0) ?_ rfl
  refine ev_fV mv_X0_nextNumber 1 0 [] [] dX2_makePromise_5 kw_901 rfl (by decide) rfl (by decide) (Nat.le_of_ble_eq_true rfl) (sp_X0_nextNumber ((a_X2_deskOf a x0) + 1)) ?_ rfl
  refine ev_iconst (1) dX2_makePromise_8 rfl ?_
  refine ev_iadd dX2_makePromise_9 ?_
  refine ev_istore dX2_makePromise_10 (Nat.le_of_ble_eq_true rfl) (ev_hw rfl) ?_
  show ev_E g m_X2_makePromise 4 0 12 [some (ev_o 2 a), some (ev_i x0), some (ev_i x1), some (ev_i x2), some (ev_i x3), some (ev_i (((S.1 ((a_X2_deskOf a x0) + 1) 6) + 1) + 1))] [] S Q
  refine ev_aload_n (ev_o 2 a) dX2_makePromise_12 rfl rfl ?_
  refine ev_iload_n (x0) dX2_makePromise_13 rfl ?_
  refine ev_fV mv_X2_deskOf 1 2 [ev_i x0] [] dX2_makePromise_14 kw_581 rfl (by decide) rfl (by decide) (Nat.le_of_ble_eq_true rfl) (sp_X2_deskOf a x0) ?_ rfl
  refine ev_iload ((((S.1 ((a_X2_deskOf a x0) + 1) 6) + 1) + 1)) dX2_makePromise_17 rfl ?_
  refine ev_iload_n (x2) dX2_makePromise_19 rfl ?_
  refine ev_iload (x3) dX2_makePromise_20 rfl ?_
  refine ev_fVn mv_X1_keepPromise 2 1 [ev_i (((S.1 ((a_X2_deskOf a x0) + 1) 6) + 1) + 1), ev_i x2, ev_i x3] [] dX2_makePromise_22 kw_967 rfl (by decide) rfl (by decide) (Nat.le_of_ble_eq_true rfl) (sp_X1_keepPromise (a_X2_deskOf a x0) (((S.1 ((a_X2_deskOf a x0) + 1) 6) + 1) + 1) x2 x3) ?_ rfl
  refine ev_sub hQ (fun S1 hS1 hQ => ?_)
  refine ev_E.goal (pc' := 25) (L' := [some (ev_o 2 a), some (ev_i x0), some (ev_i x1), some (ev_i x2), some (ev_i x3), some (ev_i (((S.1 ((a_X2_deskOf a x0) + 1) 6) + 1) + 1))]) (K' := []) (S' := S1) ?_ rfl rfl rfl hS1
  refine ev_aload_n (ev_o 2 a) dX2_makePromise_25 rfl rfl ?_
  refine gf_2_2 dX2_makePromise_26 kw_388 ?_
  refine ev_iload_n (x0) dX2_makePromise_29 rfl ?_
  refine ev_iload ((((S.1 ((a_X2_deskOf a x0) + 1) 6) + 1) + 1)) dX2_makePromise_30 rfl ?_
  refine ev_iload (x3) dX2_makePromise_32 rfl ?_
  refine ev_iload_n (x2) dX2_makePromise_34 rfl ?_
  refine ev_iload_n (x1) dX2_makePromise_35 rfl ?_
  refine ev_aload_n (ev_o 2 a) dX2_makePromise_36 rfl rfl ?_
  refine gf_2_4 dX2_makePromise_37 kw_390 ?_
  refine ev_cV mv_X6_add 3 0 6 [ev_i x0, ev_i (((S.1 ((a_X2_deskOf a x0) + 1) 6) + 1) + 1), ev_i x3, ev_i x2, ev_i x1, ev_i (S1.1 a 4)] [] dX2_makePromise_40 kw_919 rfl (by decide) rfl (by decide) (by decide) (Nat.le_of_ble_eq_true rfl) hQ ?_ rfl
  rintro o S2 ⟨v1_, rfl, hQ⟩
  show ev_E g m_X2_makePromise 4 0 43 [some (ev_o 2 a), some (ev_i x0), some (ev_i x1), some (ev_i x2), some (ev_i x3), some (ev_i (((S.1 ((a_X2_deskOf a x0) + 1) 6) + 1) + 1))] [ev_i v1_] S2 Q
  refine ev_pop dX2_makePromise_43 rfl ?_
  refine ev_iload ((((S.1 ((a_X2_deskOf a x0) + 1) 6) + 1) + 1)) dX2_makePromise_44 rfl ?_
  exact ev_ireturn .int dX2_makePromise_46 rfl rfl hQ
set_option maxHeartbeats 4000000 in
set_option maxRecDepth 100000 in
theorem sg_X9_performPromise_0 {g : ev_G} {S : ev_S} {Q : ev_O → ev_S → Prop} (a : Nat) (x0 : Int32) (hQ : ev_Cv g m_X2_promiseFault 5 0 [ev_o 2 (a + 11), ev_i (j_at (S.1 (a + 5)) 360 ((x0 * 6) + 0)), ev_i (j_at (S.1 (a + 5)) 360 ((x0 * 6) + 1)), ev_i (j_at (S.1 (a + 5)) 360 ((x0 * 6) + 2)), ev_i (j_at (S.1 (a + 5)) 360 ((x0 * 6) + 3)), ev_i (j_at (S.1 (a + 5)) 360 ((x0 * 6) + 4)), ev_i (j_at (S.1 (a + 5)) 360 ((x0 * 6) + 5))] S (fun o S1 => ∃ v1_ : Int32, o = .inl (some (ev_i v1_)) ∧ (
    (v1_ = 0 → (
      ev_Cv g m_X2_makePromise 4 0 [ev_o 2 (a + 11), ev_i (j_at (S.1 (a + 5)) 360 ((x0 * 6) + 0)), ev_i (j_at (S.1 (a + 5)) 360 ((x0 * 6) + 1)), ev_i (((j_at (S.1 (a + 5)) 360 ((x0 * 6) + 2)) * 64) + (j_at (S.1 (a + 5)) 360 ((x0 * 6) + 3))), ev_i (((j_at (S.1 (a + 5)) 360 ((x0 * 6) + 4)) * 64) + (j_at (S.1 (a + 5)) 360 ((x0 * 6) + 5)))] S1 (fun o S2 => ∃ v2_ : Int32, o = .inl (some (ev_i v2_)) ∧ (
        Q (.inl (some (ev_i 1))) S2)))) ∧
    (¬ (v1_ = 0) → (
      Q (.inl (some (ev_i 0))) S1))))) : ev_Cv g m_X9_performPromise 6 0 [ev_o 9 a, ev_i x0] S Q := by
  refine ev_enter (by decide) rfl rfl (Nat.le_of_ble_eq_true rfl) ?_
  show ev_E g m_X9_performPromise 6 0 0 [some (ev_o 9 a), some (ev_i x0), none, none, none, none, none, none] [] S Q
  refine ev_aload_n (ev_o 9 a) dX9_performPromise_0 rfl rfl ?_
  refine gf_9_1 dX9_performPromise_1 kw_688 ?_
  refine ev_iload_n (x0) dX9_performPromise_4 rfl ?_
  refine ev_iconst (0) dX9_performPromise_5 rfl ?_
  refine ev_fV mv_X7_argument 2 7 [ev_i x0, ev_i 0] [] dX9_performPromise_6 kw_845 rfl (by decide) rfl (by decide) (Nat.le_of_ble_eq_true rfl) (sp_X7_argument (a + 3) x0 0) ?_ rfl
  refine ev_istore_n dX9_performPromise_9 (Nat.le_of_ble_eq_true rfl) (ev_hw rfl) ?_
  show ev_E g m_X9_performPromise 6 0 10 [some (ev_o 9 a), some (ev_i x0), some (ev_i (j_at (S.1 (a + 5)) 360 ((x0 * 6) + 0))), none, none, none, none, none] [] S Q
  refine ev_aload_n (ev_o 9 a) dX9_performPromise_10 rfl rfl ?_
  refine gf_9_1 dX9_performPromise_11 kw_688 ?_
  refine ev_iload_n (x0) dX9_performPromise_14 rfl ?_
  refine ev_iconst (1) dX9_performPromise_15 rfl ?_
  refine ev_fV mv_X7_argument 2 7 [ev_i x0, ev_i 1] [] dX9_performPromise_16 kw_845 rfl (by decide) rfl (by decide) (Nat.le_of_ble_eq_true rfl) (sp_X7_argument (a + 3) x0 1) ?_ rfl
  refine ev_istore_n dX9_performPromise_19 (Nat.le_of_ble_eq_true rfl) (ev_hw rfl) ?_
  show ev_E g m_X9_performPromise 6 0 20 [some (ev_o 9 a), some (ev_i x0), some (ev_i (j_at (S.1 (a + 5)) 360 ((x0 * 6) + 0))), some (ev_i (j_at (S.1 (a + 5)) 360 ((x0 * 6) + 1))), none, none, none, none] [] S Q
  refine ev_aload_n (ev_o 9 a) dX9_performPromise_20 rfl rfl ?_
  refine gf_9_1 dX9_performPromise_21 kw_688 ?_
  refine ev_iload_n (x0) dX9_performPromise_24 rfl ?_
  refine ev_iconst (2) dX9_performPromise_25 rfl ?_
  refine ev_fV mv_X7_argument 2 7 [ev_i x0, ev_i 2] [] dX9_performPromise_26 kw_845 rfl (by decide) rfl (by decide) (Nat.le_of_ble_eq_true rfl) (sp_X7_argument (a + 3) x0 2) ?_ rfl
  refine ev_istore dX9_performPromise_29 (Nat.le_of_ble_eq_true rfl) (ev_hw rfl) ?_
  show ev_E g m_X9_performPromise 6 0 31 [some (ev_o 9 a), some (ev_i x0), some (ev_i (j_at (S.1 (a + 5)) 360 ((x0 * 6) + 0))), some (ev_i (j_at (S.1 (a + 5)) 360 ((x0 * 6) + 1))), some (ev_i (j_at (S.1 (a + 5)) 360 ((x0 * 6) + 2))), none, none, none] [] S Q
  refine ev_aload_n (ev_o 9 a) dX9_performPromise_31 rfl rfl ?_
  refine gf_9_1 dX9_performPromise_32 kw_688 ?_
  refine ev_iload_n (x0) dX9_performPromise_35 rfl ?_
  refine ev_iconst (3) dX9_performPromise_36 rfl ?_
  refine ev_fV mv_X7_argument 2 7 [ev_i x0, ev_i 3] [] dX9_performPromise_37 kw_845 rfl (by decide) rfl (by decide) (Nat.le_of_ble_eq_true rfl) (sp_X7_argument (a + 3) x0 3) ?_ rfl
  refine ev_istore dX9_performPromise_40 (Nat.le_of_ble_eq_true rfl) (ev_hw rfl) ?_
  show ev_E g m_X9_performPromise 6 0 42 [some (ev_o 9 a), some (ev_i x0), some (ev_i (j_at (S.1 (a + 5)) 360 ((x0 * 6) + 0))), some (ev_i (j_at (S.1 (a + 5)) 360 ((x0 * 6) + 1))), some (ev_i (j_at (S.1 (a + 5)) 360 ((x0 * 6) + 2))), some (ev_i (j_at (S.1 (a + 5)) 360 ((x0 * 6) + 3))), none, none] [] S Q
  refine ev_aload_n (ev_o 9 a) dX9_performPromise_42 rfl rfl ?_
  refine gf_9_1 dX9_performPromise_43 kw_688 ?_
  refine ev_iload_n (x0) dX9_performPromise_46 rfl ?_
  refine ev_iconst (4) dX9_performPromise_47 rfl ?_
  refine ev_fV mv_X7_argument 2 7 [ev_i x0, ev_i 4] [] dX9_performPromise_48 kw_845 rfl (by decide) rfl (by decide) (Nat.le_of_ble_eq_true rfl) (sp_X7_argument (a + 3) x0 4) ?_ rfl
  refine ev_istore dX9_performPromise_51 (Nat.le_of_ble_eq_true rfl) (ev_hw rfl) ?_
  show ev_E g m_X9_performPromise 6 0 53 [some (ev_o 9 a), some (ev_i x0), some (ev_i (j_at (S.1 (a + 5)) 360 ((x0 * 6) + 0))), some (ev_i (j_at (S.1 (a + 5)) 360 ((x0 * 6) + 1))), some (ev_i (j_at (S.1 (a + 5)) 360 ((x0 * 6) + 2))), some (ev_i (j_at (S.1 (a + 5)) 360 ((x0 * 6) + 3))), some (ev_i (j_at (S.1 (a + 5)) 360 ((x0 * 6) + 4))), none] [] S Q
  refine ev_aload_n (ev_o 9 a) dX9_performPromise_53 rfl rfl ?_
  refine gf_9_1 dX9_performPromise_54 kw_688 ?_
  refine ev_iload_n (x0) dX9_performPromise_57 rfl ?_
  refine ev_iconst (5) dX9_performPromise_58 rfl ?_
  refine ev_fV mv_X7_argument 2 7 [ev_i x0, ev_i 5] [] dX9_performPromise_59 kw_845 rfl (by decide) rfl (by decide) (Nat.le_of_ble_eq_true rfl) (sp_X7_argument (a + 3) x0 5) ?_ rfl
  refine ev_istore dX9_performPromise_62 (Nat.le_of_ble_eq_true rfl) (ev_hw rfl) ?_
  show ev_E g m_X9_performPromise 6 0 64 [some (ev_o 9 a), some (ev_i x0), some (ev_i (j_at (S.1 (a + 5)) 360 ((x0 * 6) + 0))), some (ev_i (j_at (S.1 (a + 5)) 360 ((x0 * 6) + 1))), some (ev_i (j_at (S.1 (a + 5)) 360 ((x0 * 6) + 2))), some (ev_i (j_at (S.1 (a + 5)) 360 ((x0 * 6) + 3))), some (ev_i (j_at (S.1 (a + 5)) 360 ((x0 * 6) + 4))), some (ev_i (j_at (S.1 (a + 5)) 360 ((x0 * 6) + 5)))] [] S Q
  refine ev_aload_n (ev_o 9 a) dX9_performPromise_64 rfl rfl ?_
  refine gf_9_3 dX9_performPromise_65 kw_690 ?_
  refine ev_iload_n ((j_at (S.1 (a + 5)) 360 ((x0 * 6) + 0))) dX9_performPromise_68 rfl ?_
  refine ev_iload_n ((j_at (S.1 (a + 5)) 360 ((x0 * 6) + 1))) dX9_performPromise_69 rfl ?_
  refine ev_iload ((j_at (S.1 (a + 5)) 360 ((x0 * 6) + 2))) dX9_performPromise_70 rfl ?_
  refine ev_iload ((j_at (S.1 (a + 5)) 360 ((x0 * 6) + 3))) dX9_performPromise_72 rfl ?_
  refine ev_iload ((j_at (S.1 (a + 5)) 360 ((x0 * 6) + 4))) dX9_performPromise_74 rfl ?_
  refine ev_iload ((j_at (S.1 (a + 5)) 360 ((x0 * 6) + 5))) dX9_performPromise_76 rfl ?_
  refine ev_cV mv_X2_promiseFault 5 0 2 [ev_i (j_at (S.1 (a + 5)) 360 ((x0 * 6) + 0)), ev_i (j_at (S.1 (a + 5)) 360 ((x0 * 6) + 1)), ev_i (j_at (S.1 (a + 5)) 360 ((x0 * 6) + 2)), ev_i (j_at (S.1 (a + 5)) 360 ((x0 * 6) + 3)), ev_i (j_at (S.1 (a + 5)) 360 ((x0 * 6) + 4)), ev_i (j_at (S.1 (a + 5)) 360 ((x0 * 6) + 5))] [] dX9_performPromise_78 kw_954 rfl (by decide) rfl (by decide) (by decide) (Nat.le_of_ble_eq_true rfl) hQ ?_ rfl
  rintro o S1 ⟨v1_, rfl, hQ⟩
  show ev_E g m_X9_performPromise 6 0 81 [some (ev_o 9 a), some (ev_i x0), some (ev_i (j_at (S.1 (a + 5)) 360 ((x0 * 6) + 0))), some (ev_i (j_at (S.1 (a + 5)) 360 ((x0 * 6) + 1))), some (ev_i (j_at (S.1 (a + 5)) 360 ((x0 * 6) + 2))), some (ev_i (j_at (S.1 (a + 5)) 360 ((x0 * 6) + 3))), some (ev_i (j_at (S.1 (a + 5)) 360 ((x0 * 6) + 4))), some (ev_i (j_at (S.1 (a + 5)) 360 ((x0 * 6) + 5)))] [ev_i v1_] S1 Q
  refine ev_if_eq 86 dX9_performPromise_81 (by decide) (fun c1 => ?_) (fun c1 => ?_)
  · replace hQ := hQ.1 c1
    refine ev_aload_n (ev_o 9 a) dX9_performPromise_86 rfl rfl ?_
    refine gf_9_3 dX9_performPromise_87 kw_690 ?_
    refine ev_iload_n ((j_at (S.1 (a + 5)) 360 ((x0 * 6) + 0))) dX9_performPromise_90 rfl ?_
    refine ev_iload_n ((j_at (S.1 (a + 5)) 360 ((x0 * 6) + 1))) dX9_performPromise_91 rfl ?_
    refine ev_iload ((j_at (S.1 (a + 5)) 360 ((x0 * 6) + 2))) dX9_performPromise_92 rfl ?_
    refine ev_iload ((j_at (S.1 (a + 5)) 360 ((x0 * 6) + 3))) dX9_performPromise_94 rfl ?_
    refine ev_fS ms_X9_moveOf 1 [ev_i (j_at (S.1 (a + 5)) 360 ((x0 * 6) + 2)), ev_i (j_at (S.1 (a + 5)) 360 ((x0 * 6) + 3))] [ev_i (j_at (S.1 (a + 5)) 360 ((x0 * 6) + 1)), ev_i (j_at (S.1 (a + 5)) 360 ((x0 * 6) + 0)), ev_o 2 (a + 11)] dX9_performPromise_96 kw_962 rfl (by decide) (Nat.le_of_ble_eq_true rfl) (sp_X9_moveOf (j_at (S.1 (a + 5)) 360 ((x0 * 6) + 2)) (j_at (S.1 (a + 5)) 360 ((x0 * 6) + 3))) ?_ rfl
    refine ev_iload ((j_at (S.1 (a + 5)) 360 ((x0 * 6) + 4))) dX9_performPromise_99 rfl ?_
    refine ev_iload ((j_at (S.1 (a + 5)) 360 ((x0 * 6) + 5))) dX9_performPromise_101 rfl ?_
    refine ev_fS ms_X9_moveOf 1 [ev_i (j_at (S.1 (a + 5)) 360 ((x0 * 6) + 4)), ev_i (j_at (S.1 (a + 5)) 360 ((x0 * 6) + 5))] [ev_i (((j_at (S.1 (a + 5)) 360 ((x0 * 6) + 2)) * 64) + (j_at (S.1 (a + 5)) 360 ((x0 * 6) + 3))), ev_i (j_at (S.1 (a + 5)) 360 ((x0 * 6) + 1)), ev_i (j_at (S.1 (a + 5)) 360 ((x0 * 6) + 0)), ev_o 2 (a + 11)] dX9_performPromise_103 kw_962 rfl (by decide) (Nat.le_of_ble_eq_true rfl) (sp_X9_moveOf (j_at (S.1 (a + 5)) 360 ((x0 * 6) + 4)) (j_at (S.1 (a + 5)) 360 ((x0 * 6) + 5))) ?_ rfl
    refine ev_cV mv_X2_makePromise 4 0 2 [ev_i (j_at (S.1 (a + 5)) 360 ((x0 * 6) + 0)), ev_i (j_at (S.1 (a + 5)) 360 ((x0 * 6) + 1)), ev_i (((j_at (S.1 (a + 5)) 360 ((x0 * 6) + 2)) * 64) + (j_at (S.1 (a + 5)) 360 ((x0 * 6) + 3))), ev_i (((j_at (S.1 (a + 5)) 360 ((x0 * 6) + 4)) * 64) + (j_at (S.1 (a + 5)) 360 ((x0 * 6) + 5)))] [] dX9_performPromise_106 kw_963 rfl (by decide) rfl (by decide) (by decide) (Nat.le_of_ble_eq_true rfl) hQ ?_ rfl
    rintro o S2 ⟨v2_, rfl, hQ⟩
    show ev_E g m_X9_performPromise 6 0 109 [some (ev_o 9 a), some (ev_i x0), some (ev_i (j_at (S.1 (a + 5)) 360 ((x0 * 6) + 0))), some (ev_i (j_at (S.1 (a + 5)) 360 ((x0 * 6) + 1))), some (ev_i (j_at (S.1 (a + 5)) 360 ((x0 * 6) + 2))), some (ev_i (j_at (S.1 (a + 5)) 360 ((x0 * 6) + 3))), some (ev_i (j_at (S.1 (a + 5)) 360 ((x0 * 6) + 4))), some (ev_i (j_at (S.1 (a + 5)) 360 ((x0 * 6) + 5)))] [ev_i v2_] S2 Q
    refine ev_pop dX9_performPromise_109 rfl ?_
    refine ev_iconst (1) dX9_performPromise_110 rfl ?_
    exact ev_ireturn .boolean dX9_performPromise_111 rfl rfl hQ
  · replace hQ := hQ.2 c1
    refine ev_iconst (0) dX9_performPromise_84 rfl ?_
    exact ev_ireturn .boolean dX9_performPromise_85 rfl rfl hQ
set_option maxHeartbeats 4000000 in
set_option maxRecDepth 100000 in
theorem sg_X6_exists_0 {g : ev_G} {S : ev_S} {Q : ev_O → ev_S → Prop} (a : Nat) (x0 : Int32) (hQ : (x0 < 0 → (
    Q (.inl (some (ev_i 0))) S)) ∧
  (¬ (x0 < 0) → (
    ((S.1 a 13) ≤ x0 → (
      Q (.inl (some (ev_i 0))) S)) ∧
    (¬ ((S.1 a 13) ≤ x0) → (
      Q (.inl (some (ev_i 1))) S))))) : ev_Cv g m_X6_exists 1 0 [ev_o 6 a, ev_i x0] S Q := by
  refine ev_enter (by decide) rfl rfl (Nat.le_of_ble_eq_true rfl) ?_
  show ev_E g m_X6_exists 1 0 0 [some (ev_o 6 a), some (ev_i x0)] [] S Q
  refine ev_iload_n (x0) dX6_exists_0 rfl ?_
  refine ev_if_lt 16 dX6_exists_1 (by decide) (fun c1 => ?_) (fun c1 => ?_)
  · replace hQ := hQ.1 c1
    refine ev_iconst (0) dX6_exists_16 rfl ?_
    exact ev_ireturn .boolean dX6_exists_17 rfl rfl hQ
  · replace hQ := hQ.2 c1
    refine ev_iload_n (x0) dX6_exists_4 rfl ?_
    refine ev_aload_n (ev_o 6 a) dX6_exists_5 rfl rfl ?_
    refine gf_6_13 dX6_exists_6 kw_342 ?_
    refine ev_icmp_ge 16 dX6_exists_9 (by decide) (fun c2 => ?_) (fun c2 => ?_)
    · replace hQ := hQ.1 c2
      refine ev_iconst (0) dX6_exists_16 rfl ?_
      exact ev_ireturn .boolean dX6_exists_17 rfl rfl hQ
    · replace hQ := hQ.2 c2
      refine ev_iconst (1) dX6_exists_12 rfl ?_
      refine ev_goto 17 dX6_exists_13 (by decide) ?_
      exact ev_ireturn .boolean dX6_exists_17 rfl rfl hQ
def t_X6_exists (S : ev_S) (a : Nat) (x0 : Int32) : Bool := if x0 < 0 then (false) else (if (S.1 a 13) ≤ x0 then (false) else (true))
set_option maxHeartbeats 4000000 in
set_option maxRecDepth 100000 in
theorem sp_X6_exists {g : ev_G} {S : ev_S} (a : Nat) (x0 : Int32)  : ev_Fn g m_X6_exists 1 [ev_o 6 a, ev_i x0] S (some (ev_i (if (t_X6_exists S a x0) = true then 1 else 0))) S := by
  intro Q hQ
  refine sg_X6_exists_0 a x0 ?_
  unfold t_X6_exists at hQ
  refine ⟨fun c1 => ?_, fun c1 => ?_⟩
  · rw [if_pos c1] at hQ
    exact hQ
  · rw [if_neg c1] at hQ
    refine ⟨fun c2 => ?_, fun c2 => ?_⟩
    · rw [if_pos c2] at hQ
      exact hQ
    · rw [if_neg c2] at hQ
      exact hQ
set_option maxHeartbeats 4000000 in
set_option maxRecDepth 100000 in
theorem sg_X2_copyFault_0 {g : ev_G} {S : ev_S} {Q : ev_O → ev_S → Prop} (a : Nat) (x0 : Int32) (x1 : Int32) (hQ : ((t_X6_exists S (a + 19) x0) = true → (
    ((t_X5_exists S (a + 20) x1) = true → (
      ((S.1 (a + 19) 13) < 80 → (
        Q (.inl (some (ev_i 0))) S)) ∧
      (¬ ((S.1 (a + 19) 13) < 80) → (
        Q (.inl (some (ev_i 2))) S)))) ∧
    (¬ ((t_X5_exists S (a + 20) x1) = true) → (
      Q (.inl (some (ev_i 1))) S)))) ∧
  (¬ ((t_X6_exists S (a + 19) x0) = true) → (
    Q (.inl (some (ev_i 1))) S))) : ev_Cv g m_X2_copyFault 3 0 [ev_o 2 a, ev_i x0, ev_i x1] S Q := by
  refine ev_enter (by decide) rfl rfl (Nat.le_of_ble_eq_true rfl) ?_
  show ev_E g m_X2_copyFault 3 0 0 [some (ev_o 2 a), some (ev_i x0), some (ev_i x1)] [] S Q
  refine ev_aload_n (ev_o 2 a) dX2_copyFault_0 rfl rfl ?_
  refine gf_2_2 dX2_copyFault_1 kw_388 ?_
  refine ev_iload_n (x0) dX2_copyFault_4 rfl ?_
  refine ev_fV mv_X6_exists 1 6 [ev_i x0] [] dX2_copyFault_5 kw_975 rfl (by decide) rfl (by decide) (Nat.le_of_ble_eq_true rfl) (sp_X6_exists (a + 19) x0) ?_ rfl
  by_cases c1 : (t_X6_exists S (a + 19) x0) = true
  · rw [if_pos c1]
    replace hQ := hQ.1 c1
    refine ev_if_eq 22 dX2_copyFault_8 (by decide) (fun h9 => absurd h9 (by decide : ¬ ((1 : Int32) = 0))) (fun _ => ?_)
    refine ev_aload_n (ev_o 2 a) dX2_copyFault_11 rfl rfl ?_
    refine ev_fV mv_X2_passes 2 2 [] [] dX2_copyFault_12 kw_863 rfl (by decide) rfl (by decide) (Nat.le_of_ble_eq_true rfl) (sp_X2_passes a) ?_ rfl
    refine ev_iload_n (x1) dX2_copyFault_15 rfl ?_
    refine ev_fV mv_X5_exists 1 5 [ev_i x1] [] dX2_copyFault_16 kw_864 rfl (by decide) rfl (by decide) (Nat.le_of_ble_eq_true rfl) (sp_X5_exists (a + 20) x1) ?_ rfl
    by_cases c2 : (t_X5_exists S (a + 20) x1) = true
    · rw [if_pos c2]
      replace hQ := hQ.1 c2
      refine ev_if_ne 24 dX2_copyFault_19 (by decide) (fun _ => ?_) (fun h9 => absurd h9 (by decide : ¬ ((1 : Int32) = 0)))
      refine ev_aload_n (ev_o 2 a) dX2_copyFault_24 rfl rfl ?_
      refine gf_2_2 dX2_copyFault_25 kw_388 ?_
      refine ev_fV mv_X6_isFull 1 6 [] [] dX2_copyFault_28 kw_884 rfl (by decide) rfl (by decide) (Nat.le_of_ble_eq_true rfl) (sp_X6_isFull (a + 19)) ?_ rfl
      by_cases c3 : (S.1 (a + 19) 13) < 80
      · rw [if_pos c3]
        replace hQ := hQ.1 c3
        refine ev_if_eq 38 dX2_copyFault_31 (by decide) (fun _ => ?_) (fun h9 => absurd (by decide : ((0 : Int32) = 0)) h9)
        refine ev_iconst (0) dX2_copyFault_38 rfl ?_
        exact ev_ireturn .int dX2_copyFault_39 rfl rfl hQ
      · rw [if_neg c3]
        replace hQ := hQ.2 c3
        refine ev_if_eq 38 dX2_copyFault_31 (by decide) (fun h9 => absurd h9 (by decide : ¬ ((1 : Int32) = 0))) (fun _ => ?_)
        refine ev_iconst (2) dX2_copyFault_34 rfl ?_
        refine ev_goto 39 dX2_copyFault_35 (by decide) ?_
        exact ev_ireturn .int dX2_copyFault_39 rfl rfl hQ
    · rw [if_neg c2]
      replace hQ := hQ.2 c2
      refine ev_if_ne 24 dX2_copyFault_19 (by decide) (fun h9 => absurd (by decide : ((0 : Int32) = 0)) h9) (fun _ => ?_)
      refine ev_iconst (1) dX2_copyFault_22 rfl ?_
      exact ev_ireturn .int dX2_copyFault_23 rfl rfl hQ
  · rw [if_neg c1]
    replace hQ := hQ.2 c1
    refine ev_if_eq 22 dX2_copyFault_8 (by decide) (fun _ => ?_) (fun h9 => absurd (by decide : ((0 : Int32) = 0)) h9)
    refine ev_iconst (1) dX2_copyFault_22 rfl ?_
    exact ev_ireturn .int dX2_copyFault_23 rfl rfl hQ
def f_X2_copyFault (S : ev_S) (a : Nat) (x0 : Int32) (x1 : Int32) : Int32 := if (t_X6_exists S (a + 19) x0) = true then (if (t_X5_exists S (a + 20) x1) = true then (if (S.1 (a + 19) 13) < 80 then (0) else (2)) else (1)) else (1)
set_option maxHeartbeats 4000000 in
set_option maxRecDepth 100000 in
theorem sp_X2_copyFault {g : ev_G} {S : ev_S} (a : Nat) (x0 : Int32) (x1 : Int32)  : ev_Fn g m_X2_copyFault 3 [ev_o 2 a, ev_i x0, ev_i x1] S (some (ev_i (f_X2_copyFault S a x0 x1))) S := by
  intro Q hQ
  refine sg_X2_copyFault_0 a x0 x1 ?_
  unfold f_X2_copyFault at hQ
  refine ⟨fun c1 => ?_, fun c1 => ?_⟩
  · rw [if_pos c1] at hQ
    refine ⟨fun c2 => ?_, fun c2 => ?_⟩
    · rw [if_pos c2] at hQ
      refine ⟨fun c3 => ?_, fun c3 => ?_⟩
      · rw [if_pos c3] at hQ
        exact hQ
      · rw [if_neg c3] at hQ
        exact hQ
    · rw [if_neg c2] at hQ
      exact hQ
  · rw [if_neg c1] at hQ
    exact hQ
set_option maxHeartbeats 4000000 in
set_option maxRecDepth 100000 in
theorem sg_X6_writerOf_0 {g : ev_G} {S : ev_S} {Q : ev_O → ev_S → Prop} (a : Nat) (x0 : Int32) (hQ : Q (.inl (some (ev_i (j_at (S.1 (a + 5)) 84 x0)))) S) : ev_Cv g m_X6_writerOf 2 0 [ev_o 6 a, ev_i x0] S Q := by
  refine ev_enter (by decide) rfl rfl (Nat.le_of_ble_eq_true rfl) ?_
  show ev_E g m_X6_writerOf 2 0 0 [some (ev_o 6 a), some (ev_i x0)] [] S Q
  refine ev_aload_n (ev_o 6 a) dX6_writerOf_0 rfl rfl ?_
  refine gf_6_1 dX6_writerOf_1 kw_330 ?_
  refine ev_iload_n (x0) dX6_writerOf_4 rfl ?_
  refine ev_fN ms_X9_at 1 [ev_y 84 (a + 5), ev_i x0] [] dX6_writerOf_5 (List.mem_of_getElem? (i := 27) rfl) rfl (by decide) (Nat.le_of_ble_eq_true rfl) (sp_X9_at 84 (a + 5) x0) ?_ rfl
  exact ev_ireturn .int dX6_writerOf_8 rfl rfl hQ
set_option maxHeartbeats 4000000 in
set_option maxRecDepth 100000 in
theorem sp_X6_writerOf {g : ev_G} {S : ev_S} (a : Nat) (x0 : Int32)  : ev_Fn g m_X6_writerOf 2 [ev_o 6 a, ev_i x0] S (some (ev_i (j_at (S.1 (a + 5)) 84 x0))) S := by
  intro Q hQ
  refine sg_X6_writerOf_0 a x0 ?_
  exact hQ
set_option maxHeartbeats 4000000 in
set_option maxRecDepth 100000 in
theorem sg_X6_numberOf_0 {g : ev_G} {S : ev_S} {Q : ev_O → ev_S → Prop} (a : Nat) (x0 : Int32) (hQ : Q (.inl (some (ev_i (j_at (S.1 (a + 6)) 84 x0)))) S) : ev_Cv g m_X6_numberOf 2 0 [ev_o 6 a, ev_i x0] S Q := by
  refine ev_enter (by decide) rfl rfl (Nat.le_of_ble_eq_true rfl) ?_
  show ev_E g m_X6_numberOf 2 0 0 [some (ev_o 6 a), some (ev_i x0)] [] S Q
  refine ev_aload_n (ev_o 6 a) dX6_numberOf_0 rfl rfl ?_
  refine gf_6_2 dX6_numberOf_1 kw_331 ?_
  refine ev_iload_n (x0) dX6_numberOf_4 rfl ?_
  refine ev_fN ms_X9_at 1 [ev_y 84 (a + 6), ev_i x0] [] dX6_numberOf_5 (List.mem_of_getElem? (i := 27) rfl) rfl (by decide) (Nat.le_of_ble_eq_true rfl) (sp_X9_at 84 (a + 6) x0) ?_ rfl
  exact ev_ireturn .int dX6_numberOf_8 rfl rfl hQ
set_option maxHeartbeats 4000000 in
set_option maxRecDepth 100000 in
theorem sp_X6_numberOf {g : ev_G} {S : ev_S} (a : Nat) (x0 : Int32)  : ev_Fn g m_X6_numberOf 2 [ev_o 6 a, ev_i x0] S (some (ev_i (j_at (S.1 (a + 6)) 84 x0))) S := by
  intro Q hQ
  refine sg_X6_numberOf_0 a x0 ?_
  exact hQ
set_option maxHeartbeats 4000000 in
set_option maxRecDepth 100000 in
theorem sg_X6_moveIn_0 {g : ev_G} {S : ev_S} {Q : ev_O → ev_S → Prop} (a : Nat) (x0 : Int32) (hQ : Q (.inl (some (ev_i (j_at (S.1 (a + 7)) 84 x0)))) S) : ev_Cv g m_X6_moveIn 2 0 [ev_o 6 a, ev_i x0] S Q := by
  refine ev_enter (by decide) rfl rfl (Nat.le_of_ble_eq_true rfl) ?_
  show ev_E g m_X6_moveIn 2 0 0 [some (ev_o 6 a), some (ev_i x0)] [] S Q
  refine ev_aload_n (ev_o 6 a) dX6_moveIn_0 rfl rfl ?_
  refine gf_6_3 dX6_moveIn_1 kw_332 ?_
  refine ev_iload_n (x0) dX6_moveIn_4 rfl ?_
  refine ev_fN ms_X9_at 1 [ev_y 84 (a + 7), ev_i x0] [] dX6_moveIn_5 (List.mem_of_getElem? (i := 27) rfl) rfl (by decide) (Nat.le_of_ble_eq_true rfl) (sp_X9_at 84 (a + 7) x0) ?_ rfl
  exact ev_ireturn .int dX6_moveIn_8 rfl rfl hQ
set_option maxHeartbeats 4000000 in
set_option maxRecDepth 100000 in
theorem sp_X6_moveIn {g : ev_G} {S : ev_S} (a : Nat) (x0 : Int32)  : ev_Fn g m_X6_moveIn 2 [ev_o 6 a, ev_i x0] S (some (ev_i (j_at (S.1 (a + 7)) 84 x0))) S := by
  intro Q hQ
  refine sg_X6_moveIn_0 a x0 ?_
  exact hQ
set_option maxHeartbeats 4000000 in
set_option maxRecDepth 100000 in
theorem sg_X6_expectedOf_0 {g : ev_G} {S : ev_S} {Q : ev_O → ev_S → Prop} (a : Nat) (x0 : Int32) (hQ : Q (.inl (some (ev_i (j_at (S.1 (a + 8)) 84 x0)))) S) : ev_Cv g m_X6_expectedOf 2 0 [ev_o 6 a, ev_i x0] S Q := by
  refine ev_enter (by decide) rfl rfl (Nat.le_of_ble_eq_true rfl) ?_
  show ev_E g m_X6_expectedOf 2 0 0 [some (ev_o 6 a), some (ev_i x0)] [] S Q
  refine ev_aload_n (ev_o 6 a) dX6_expectedOf_0 rfl rfl ?_
  refine gf_6_4 dX6_expectedOf_1 kw_333 ?_
  refine ev_iload_n (x0) dX6_expectedOf_4 rfl ?_
  refine ev_fN ms_X9_at 1 [ev_y 84 (a + 8), ev_i x0] [] dX6_expectedOf_5 (List.mem_of_getElem? (i := 27) rfl) rfl (by decide) (Nat.le_of_ble_eq_true rfl) (sp_X9_at 84 (a + 8) x0) ?_ rfl
  exact ev_ireturn .int dX6_expectedOf_8 rfl rfl hQ
set_option maxHeartbeats 4000000 in
set_option maxRecDepth 100000 in
theorem sp_X6_expectedOf {g : ev_G} {S : ev_S} (a : Nat) (x0 : Int32)  : ev_Fn g m_X6_expectedOf 2 [ev_o 6 a, ev_i x0] S (some (ev_i (j_at (S.1 (a + 8)) 84 x0))) S := by
  intro Q hQ
  refine sg_X6_expectedOf_0 a x0 ?_
  exact hQ
set_option maxHeartbeats 4000000 in
set_option maxRecDepth 100000 in
theorem sg_X2_makeCopy_0 {g : ev_G} {S : ev_S} {Q : ev_O → ev_S → Prop} (a : Nat) (x0 : Int32) (x1 : Int32) (hQ : ev_Cv g m_X6_add 3 0 [ev_o 6 (a + 19), ev_i (j_at (S.1 (a + 24)) 84 x0), ev_i (j_at (S.1 (a + 25)) 84 x0), ev_i (j_at (S.1 (a + 26)) 84 x0), ev_i (j_at (S.1 (a + 27)) 84 x0), ev_i x1, ev_i (S.1 a 4)] S (fun o S1 => ∃ v1_ : Int32, o = .inl (some (ev_i v1_)) ∧ (
    Q (.inl (some (ev_i v1_))) S1))) : ev_Cv g m_X2_makeCopy 4 0 [ev_o 2 a, ev_i x0, ev_i x1] S Q := by
  refine ev_enter (by decide) rfl rfl (Nat.le_of_ble_eq_true rfl) ?_
  show ev_E g m_X2_makeCopy 4 0 0 [some (ev_o 2 a), some (ev_i x0), some (ev_i x1)] [] S Q
  refine ev_aload_n (ev_o 2 a) dX2_makeCopy_0 rfl rfl ?_
  refine gf_2_2 dX2_makeCopy_1 kw_388 ?_
  refine ev_aload_n (ev_o 2 a) dX2_makeCopy_4 rfl rfl ?_
  refine gf_2_2 dX2_makeCopy_5 kw_388 ?_
  refine ev_iload_n (x0) dX2_makeCopy_8 rfl ?_
  refine ev_fV mv_X6_writerOf 2 6 [ev_i x0] [ev_o 6 (a + 19)] dX2_makeCopy_9 kw_983 rfl (by decide) rfl (by decide) (Nat.le_of_ble_eq_true rfl) (sp_X6_writerOf (a + 19) x0) ?_ rfl
  refine ev_aload_n (ev_o 2 a) dX2_makeCopy_12 rfl rfl ?_
  refine gf_2_2 dX2_makeCopy_13 kw_388 ?_
  refine ev_iload_n (x0) dX2_makeCopy_16 rfl ?_
  refine ev_fV mv_X6_numberOf 2 6 [ev_i x0] [ev_i (j_at (S.1 (a + 24)) 84 x0), ev_o 6 (a + 19)] dX2_makeCopy_17 kw_987 rfl (by decide) rfl (by decide) (Nat.le_of_ble_eq_true rfl) (sp_X6_numberOf (a + 19) x0) ?_ rfl
  refine ev_aload_n (ev_o 2 a) dX2_makeCopy_20 rfl rfl ?_
  refine gf_2_2 dX2_makeCopy_21 kw_388 ?_
  refine ev_iload_n (x0) dX2_makeCopy_24 rfl ?_
  refine ev_fV mv_X6_moveIn 2 6 [ev_i x0] [ev_i (j_at (S.1 (a + 25)) 84 x0), ev_i (j_at (S.1 (a + 24)) 84 x0), ev_o 6 (a + 19)] dX2_makeCopy_25 kw_991 rfl (by decide) rfl (by decide) (Nat.le_of_ble_eq_true rfl) (sp_X6_moveIn (a + 19) x0) ?_ rfl
  refine ev_aload_n (ev_o 2 a) dX2_makeCopy_28 rfl rfl ?_
  refine gf_2_2 dX2_makeCopy_29 kw_388 ?_
  refine ev_iload_n (x0) dX2_makeCopy_32 rfl ?_
  refine ev_fV mv_X6_expectedOf 2 6 [ev_i x0] [ev_i (j_at (S.1 (a + 26)) 84 x0), ev_i (j_at (S.1 (a + 25)) 84 x0), ev_i (j_at (S.1 (a + 24)) 84 x0), ev_o 6 (a + 19)] dX2_makeCopy_33 kw_995 rfl (by decide) rfl (by decide) (Nat.le_of_ble_eq_true rfl) (sp_X6_expectedOf (a + 19) x0) ?_ rfl
  refine ev_iload_n (x1) dX2_makeCopy_36 rfl ?_
  refine ev_aload_n (ev_o 2 a) dX2_makeCopy_37 rfl rfl ?_
  refine gf_2_4 dX2_makeCopy_38 kw_390 ?_
  refine ev_cV mv_X6_add 3 0 6 [ev_i (j_at (S.1 (a + 24)) 84 x0), ev_i (j_at (S.1 (a + 25)) 84 x0), ev_i (j_at (S.1 (a + 26)) 84 x0), ev_i (j_at (S.1 (a + 27)) 84 x0), ev_i x1, ev_i (S.1 a 4)] [] dX2_makeCopy_41 kw_919 rfl (by decide) rfl (by decide) (by decide) (Nat.le_of_ble_eq_true rfl) hQ ?_ rfl
  rintro o S1 ⟨v1_, rfl, hQ⟩
  show ev_E g m_X2_makeCopy 4 0 44 [some (ev_o 2 a), some (ev_i x0), some (ev_i x1)] [ev_i v1_] S1 Q
  exact ev_ireturn .int dX2_makeCopy_44 rfl rfl hQ
set_option maxHeartbeats 4000000 in
set_option maxRecDepth 100000 in
theorem sg_X2_daysFault_0 {g : ev_G} {S : ev_S} {Q : ev_O → ev_S → Prop} (a : Nat) (x0 : Int32) (hQ : (x0 < 1 → (
    Q (.inl (some (ev_i 3))) S)) ∧
  (¬ (x0 < 1) → (
    (x0 ≤ 60 → (
      (((S.1 a 4) + x0) ≤ 9999 → (
        Q (.inl (some (ev_i 0))) S)) ∧
      (¬ (((S.1 a 4) + x0) ≤ 9999) → (
        Q (.inl (some (ev_i 2))) S)))) ∧
    (¬ (x0 ≤ 60) → (
      Q (.inl (some (ev_i 3))) S))))) : ev_Cv g m_X2_daysFault 1 0 [ev_o 2 a, ev_i x0] S Q := by
  refine ev_enter (by decide) rfl rfl (Nat.le_of_ble_eq_true rfl) ?_
  show ev_E g m_X2_daysFault 1 0 0 [some (ev_o 2 a), some (ev_i x0)] [] S Q
  refine ev_iload_n (x0) dX2_daysFault_0 rfl ?_
  refine ev_iconst (1) dX2_daysFault_1 rfl ?_
  refine ev_icmp_lt 11 dX2_daysFault_2 (by decide) (fun c1 => ?_) (fun c1 => ?_)
  · replace hQ := hQ.1 c1
    refine ev_iconst (3) dX2_daysFault_11 rfl ?_
    exact ev_ireturn .int dX2_daysFault_12 rfl rfl hQ
  · replace hQ := hQ.2 c1
    refine ev_iload_n (x0) dX2_daysFault_5 rfl ?_
    refine ev_bipush (60) dX2_daysFault_6 (by decide) ?_
    refine ev_icmp_le 13 dX2_daysFault_8 (by decide) (fun c2 => ?_) (fun c2 => ?_)
    · replace hQ := hQ.1 c2
      refine ev_aload_n (ev_o 2 a) dX2_daysFault_13 rfl rfl ?_
      refine gf_2_4 dX2_daysFault_14 kw_390 ?_
      refine ev_iload_n (x0) dX2_daysFault_17 rfl ?_
      refine ev_iadd dX2_daysFault_18 ?_
      refine ev_sipush (9999) dX2_daysFault_19 (by decide) ?_
      refine ev_icmp_le 29 dX2_daysFault_22 (by decide) (fun c3 => ?_) (fun c3 => ?_)
      · replace hQ := hQ.1 c3
        refine ev_iconst (0) dX2_daysFault_29 rfl ?_
        exact ev_ireturn .int dX2_daysFault_30 rfl rfl hQ
      · replace hQ := hQ.2 c3
        refine ev_iconst (2) dX2_daysFault_25 rfl ?_
        refine ev_goto 30 dX2_daysFault_26 (by decide) ?_
        exact ev_ireturn .int dX2_daysFault_30 rfl rfl hQ
    · replace hQ := hQ.2 c2
      refine ev_iconst (3) dX2_daysFault_11 rfl ?_
      exact ev_ireturn .int dX2_daysFault_12 rfl rfl hQ
def f_X2_daysFault (S : ev_S) (a : Nat) (x0 : Int32) : Int32 := if x0 < 1 then (3) else (if x0 ≤ 60 then (if ((S.1 a 4) + x0) ≤ 9999 then (0) else (2)) else (3))
set_option maxHeartbeats 4000000 in
set_option maxRecDepth 100000 in
theorem sp_X2_daysFault {g : ev_G} {S : ev_S} (a : Nat) (x0 : Int32)  : ev_Fn g m_X2_daysFault 1 [ev_o 2 a, ev_i x0] S (some (ev_i (f_X2_daysFault S a x0))) S := by
  intro Q hQ
  refine sg_X2_daysFault_0 a x0 ?_
  unfold f_X2_daysFault at hQ
  refine ⟨fun c1 => ?_, fun c1 => ?_⟩
  · rw [if_pos c1] at hQ
    exact hQ
  · rw [if_neg c1] at hQ
    refine ⟨fun c2 => ?_, fun c2 => ?_⟩
    · rw [if_pos c2] at hQ
      refine ⟨fun c3 => ?_, fun c3 => ?_⟩
      · rw [if_pos c3] at hQ
        exact hQ
      · rw [if_neg c3] at hQ
        exact hQ
    · rw [if_neg c2] at hQ
      exact hQ
set_option maxHeartbeats 4000000 in
set_option maxRecDepth 100000 in
theorem sg_X9_monthOf_0 {g : ev_G} {S : ev_S} {Q : ev_O → ev_S → Prop} (x0 : Int32) (hQ : Q (.inl (some (ev_i (ev_rem (x0 / 30) 12)))) S) : ev_Cv g m_X9_monthOf 1 0 [ev_i x0] S Q := by
  refine ev_enter (by decide) rfl rfl (Nat.le_of_ble_eq_true rfl) ?_
  show ev_E g m_X9_monthOf 1 0 0 [some (ev_i x0)] [] S Q
  refine ev_iload_n (x0) dX9_monthOf_0 rfl ?_
  refine ev_bipush (30) dX9_monthOf_1 (by decide) ?_
  refine ev_idiv dX9_monthOf_3 (by decide) ?_
  refine ev_bipush (12) dX9_monthOf_4 (by decide) ?_
  refine ev_irem dX9_monthOf_6 (by decide) ?_
  exact ev_ireturn .int dX9_monthOf_7 rfl rfl hQ
set_option maxHeartbeats 4000000 in
set_option maxRecDepth 100000 in
theorem sp_X9_monthOf {g : ev_G} {S : ev_S} (x0 : Int32)  : ev_Fn g m_X9_monthOf 1 [ev_i x0] S (some (ev_i (ev_rem (x0 / 30) 12))) S := by
  intro Q hQ
  refine sg_X9_monthOf_0 x0 ?_
  exact hQ
set_option maxHeartbeats 4000000 in
set_option maxRecDepth 100000 in
theorem sg_X5_isClosed_0 {g : ev_G} {S : ev_S} {Q : ev_O → ev_S → Prop} (a : Nat) (x0 : Int32) (x1 : Int32) (hQ : ((j_at (S.1 (a + 2)) 48 ((x0 * 12) + x1)) < 9 → (
    Q (.inl (some (ev_i 0))) S)) ∧
  (¬ ((j_at (S.1 (a + 2)) 48 ((x0 * 12) + x1)) < 9) → (
    Q (.inl (some (ev_i 1))) S))) : ev_Cv g m_X5_isClosed 3 0 [ev_o 5 a, ev_i x0, ev_i x1] S Q := by
  refine ev_enter (by decide) rfl rfl (Nat.le_of_ble_eq_true rfl) ?_
  show ev_E g m_X5_isClosed 3 0 0 [some (ev_o 5 a), some (ev_i x0), some (ev_i x1)] [] S Q
  refine ev_aload_n (ev_o 5 a) dX5_isClosed_0 rfl rfl ?_
  refine ev_iload_n (x0) dX5_isClosed_1 rfl ?_
  refine ev_iload_n (x1) dX5_isClosed_2 rfl ?_
  refine ev_fV mv_X5_snowIn 2 5 [ev_i x0, ev_i x1] [] dX5_isClosed_3 kw_644 rfl (by decide) rfl (by decide) (Nat.le_of_ble_eq_true rfl) (sp_X5_snowIn a x0 x1) ?_ rfl
  refine ev_bipush (9) dX5_isClosed_6 (by decide) ?_
  refine ev_icmp_lt 15 dX5_isClosed_8 (by decide) (fun c1 => ?_) (fun c1 => ?_)
  · replace hQ := hQ.1 c1
    refine ev_iconst (0) dX5_isClosed_15 rfl ?_
    exact ev_ireturn .boolean dX5_isClosed_16 rfl rfl hQ
  · replace hQ := hQ.2 c1
    refine ev_iconst (1) dX5_isClosed_11 rfl ?_
    refine ev_goto 16 dX5_isClosed_12 (by decide) ?_
    exact ev_ireturn .boolean dX5_isClosed_16 rfl rfl hQ
set_option maxHeartbeats 4000000 in
set_option maxRecDepth 100000 in
theorem sp_X5_isClosed {g : ev_G} {S : ev_S} (a : Nat) (x0 : Int32) (x1 : Int32)  : ev_Fn g m_X5_isClosed 3 [ev_o 5 a, ev_i x0, ev_i x1] S (some (ev_i (if (j_at (S.1 (a + 2)) 48 ((x0 * 12) + x1)) < 9 then 0 else 1))) S := by
  intro Q hQ
  refine sg_X5_isClosed_0 a x0 x1 ?_
  refine ⟨fun c1 => ?_, fun c1 => ?_⟩
  · rw [if_pos c1] at hQ
    exact hQ
  · rw [if_neg c1] at hQ
    exact hQ
set_option maxHeartbeats 4000000 in
set_option maxRecDepth 100000 in
theorem sg_X5_changeMules_0 {g : ev_G} {S : ev_S} {Q : ev_O → ev_S → Prop} (a : Nat) (x0 : Int32) (x1 : Int32) (x2 : Int32) (hQ : ∀ S1 : ev_S, S1 = (j_put S (a + 3) 8 ((x0 * 2) + x1) ((j_at (S.1 (a + 3)) 8 ((x0 * 2) + x1)) + x2)) → (
    Q (.inl none) S1)) : ev_Cv g m_X5_changeMules 2 0 [ev_o 5 a, ev_i x0, ev_i x1, ev_i x2] S Q := by
  refine ev_enter (by decide) rfl rfl (Nat.le_of_ble_eq_true rfl) ?_
  show ev_E g m_X5_changeMules 2 0 0 [some (ev_o 5 a), some (ev_i x0), some (ev_i x1), some (ev_i x2), none] [] S Q
  refine ev_iload_n (x0) dX5_changeMules_0 rfl ?_
  refine ev_iconst (2) dX5_changeMules_1 rfl ?_
  refine ev_imul dX5_changeMules_2 ?_
  refine ev_iload_n (x1) dX5_changeMules_3 rfl ?_
  refine ev_iadd dX5_changeMules_4 ?_
  refine ev_istore dX5_changeMules_5 (Nat.le_of_ble_eq_true rfl) (ev_hw rfl) ?_
  show ev_E g m_X5_changeMules 2 0 7 [some (ev_o 5 a), some (ev_i x0), some (ev_i x1), some (ev_i x2), some (ev_i ((x0 * 2) + x1))] [] S Q
  refine ev_aload_n (ev_o 5 a) dX5_changeMules_7 rfl rfl ?_
  refine gf_5_2 dX5_changeMules_8 kw_315 ?_
  refine ev_iload (((x0 * 2) + x1)) dX5_changeMules_11 rfl ?_
  refine ev_aload_n (ev_o 5 a) dX5_changeMules_13 rfl rfl ?_
  refine gf_5_2 dX5_changeMules_14 kw_315 ?_
  refine ev_iload (((x0 * 2) + x1)) dX5_changeMules_17 rfl ?_
  refine ev_fN ms_X9_at 1 [ev_y 8 (a + 3), ev_i ((x0 * 2) + x1)] [ev_i ((x0 * 2) + x1), ev_y 8 (a + 3)] dX5_changeMules_19 (List.mem_of_getElem? (i := 14) rfl) rfl (by decide) (Nat.le_of_ble_eq_true rfl) (sp_X9_at 8 (a + 3) ((x0 * 2) + x1)) ?_ rfl
  refine ev_iload_n (x2) dX5_changeMules_22 rfl ?_
  refine ev_iadd dX5_changeMules_23 ?_
  refine ev_fNn ms_X9_put 1 [ev_y 8 (a + 3), ev_i ((x0 * 2) + x1), ev_i ((j_at (S.1 (a + 3)) 8 ((x0 * 2) + x1)) + x2)] [] dX5_changeMules_24 (List.mem_of_getElem? (i := 13) rfl) rfl (by decide) (Nat.le_of_ble_eq_true rfl) (sp_X9_put 8 (a + 3) ((x0 * 2) + x1) ((j_at (S.1 (a + 3)) 8 ((x0 * 2) + x1)) + x2)) ?_ rfl
  refine ev_sub hQ (fun S1 hS1 hQ => ?_)
  refine ev_E.goal (pc' := 27) (L' := [some (ev_o 5 a), some (ev_i x0), some (ev_i x1), some (ev_i x2), some (ev_i ((x0 * 2) + x1))]) (K' := []) (S' := S1) ?_ rfl rfl rfl hS1
  exact ev_return dX5_changeMules_27 rfl hQ
set_option maxHeartbeats 4000000 in
set_option maxRecDepth 100000 in
theorem sp_X5_changeMules {g : ev_G} {S : ev_S} (a : Nat) (x0 : Int32) (x1 : Int32) (x2 : Int32)  : ev_Fn g m_X5_changeMules 2 [ev_o 5 a, ev_i x0, ev_i x1, ev_i x2] S none (j_put S (a + 3) 8 ((x0 * 2) + x1) ((j_at (S.1 (a + 3)) 8 ((x0 * 2) + x1)) + x2)) := by
  intro Q hQ
  refine sg_X5_changeMules_0 a x0 x1 x2 ?_
  intro S1 hS1
  subst hS1
  exact hQ
