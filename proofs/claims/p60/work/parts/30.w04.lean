set_option maxHeartbeats 4000000 in
set_option maxRecDepth 100000 in
theorem sg_X1_settle_0 {g : ev_G} {S : ev_S} {Q : ev_O → ev_S → Prop} (a : Nat) (x0 : Int32) (hQ : ev_E g m_X1_settle 4 0 2 [some (ev_o 1 a), some (ev_i x0), some (ev_i 0), none, none, none] [] S Q) : ev_Cv g m_X1_settle 4 0 [ev_o 1 a, ev_i x0] S Q := by
  refine ev_enter (by decide) rfl rfl (Nat.le_of_ble_eq_true rfl) ?_
  show ev_E g m_X1_settle 4 0 0 [some (ev_o 1 a), some (ev_i x0), none, none, none, none] [] S Q
  refine ev_iconst (0) dX1_settle_0 rfl ?_
  refine ev_istore_n dX1_settle_1 (Nat.le_of_ble_eq_true rfl) (ev_hw rfl) ?_
  show ev_E g m_X1_settle 4 0 2 [some (ev_o 1 a), some (ev_i x0), some (ev_i 0), none, none, none] [] S Q
  exact hQ
set_option maxHeartbeats 4000000 in
set_option maxRecDepth 100000 in
theorem sg_X1_settle_2 {g : ev_G} {S : ev_S} {Q : ev_O → ev_S → Prop} (a : Nat) (u1 : Int32) (u2 : Int32) (hQ : (60 < u2 → (
    Q (.inl none) S)) ∧
  (¬ (60 < u2) → (
    ((t_X0_isFinished S (a + 1)) = true → (
      Q (.inl none) S)) ∧
    (¬ ((t_X0_isFinished S (a + 1)) = true) → (
      ((f_X9_moverOf ((S.1 (a + 1) 6) + 1)) = (S.1 a 0) → (
        ((j_at (S.1 (a + 6)) 61 ((S.1 (a + 1) 6) + 1)) = (-1) → (
          ((j_at (S.1 (a + 8)) 61 ((S.1 (a + 1) 6) + 1)) = (-1) → (
            Q (.inl none) S)) ∧
          (¬ ((j_at (S.1 (a + 8)) 61 ((S.1 (a + 1) 6) + 1)) = (-1)) → (
            ((j_at (S.1 (a + 7)) 61 ((S.1 (a + 1) 6) + 1)) = (f_X0_moveAt S (a + 1) (((S.1 (a + 1) 6) + 1) - 1)) → (
              ∀ S8 : ev_S, S8 = (ev_up S a 6 ((S.1 a 6) + 1)) → (
                ev_Cv g m_X0_play 3 0 [ev_o 0 (a + 1), ev_i (j_at (S.1 (a + 8)) 61 ((S.1 (a + 1) 6) + 1))] S8 (fun o S9 => o = .inl none ∧ (
                  ∀ S10 : ev_S, S10 = (ev_up S9 a 7 u1) → (
                    ev_E g m_X1_settle 4 0 2 [some (ev_o 1 a), some (ev_i u1), some (ev_i (u2 + 1)), none, none, none] [] S10 Q)))))) ∧
            (¬ ((j_at (S.1 (a + 7)) 61 ((S.1 (a + 1) 6) + 1)) = (f_X0_moveAt S (a + 1) (((S.1 (a + 1) 6) + 1) - 1))) → (
              Q (.inl none) S)))))) ∧
        (¬ ((j_at (S.1 (a + 6)) 61 ((S.1 (a + 1) 6) + 1)) = (-1)) → (
          ∀ S11 : ev_S, S11 = (j_put S (a + 6) 61 ((S.1 (a + 1) 6) + 1) (-1)) → (
            ∀ S12 : ev_S, S12 = (ev_up S11 a 5 ((S11.1 a 5) - 1)) → (
              ev_Cv g m_X0_play 3 0 [ev_o 0 (a + 1), ev_i (j_at (S.1 (a + 6)) 61 ((S.1 (a + 1) 6) + 1))] S12 (fun o S13 => o = .inl none ∧ (
                ∀ S14 : ev_S, S14 = (ev_up S13 a 7 u1) → (
                  ev_E g m_X1_settle 4 0 2 [some (ev_o 1 a), some (ev_i u1), some (ev_i (u2 + 1)), none, none, none] [] S14 Q))))))))) ∧
      (¬ ((f_X9_moverOf ((S.1 (a + 1) 6) + 1)) = (S.1 a 0)) → (
        ((j_at (S.1 (a + 6)) 61 ((S.1 (a + 1) 6) + 1)) = (-1) → (
          ((j_at (S.1 (a + 8)) 61 ((S.1 (a + 1) 6) + 1)) = (-1) → (
            Q (.inl none) S)) ∧
          (¬ ((j_at (S.1 (a + 8)) 61 ((S.1 (a + 1) 6) + 1)) = (-1)) → (
            ((j_at (S.1 (a + 7)) 61 ((S.1 (a + 1) 6) + 1)) = (f_X0_moveAt S (a + 1) (((S.1 (a + 1) 6) + 1) - 1)) → (
              ∀ S1 : ev_S, S1 = (ev_up S a 6 ((S.1 a 6) + 0)) → (
                ev_Cv g m_X0_play 3 0 [ev_o 0 (a + 1), ev_i (j_at (S.1 (a + 8)) 61 ((S.1 (a + 1) 6) + 1))] S1 (fun o S2 => o = .inl none ∧ (
                  ev_Cv g m_X1_noteWait 1 0 [ev_o 1 a, ev_i u1] S2 (fun o S3 => o = .inl none ∧ (
                    ev_E g m_X1_settle 4 0 2 [some (ev_o 1 a), some (ev_i u1), some (ev_i (u2 + 1)), none, none, none] [] S3 Q))))))) ∧
            (¬ ((j_at (S.1 (a + 7)) 61 ((S.1 (a + 1) 6) + 1)) = (f_X0_moveAt S (a + 1) (((S.1 (a + 1) 6) + 1) - 1))) → (
              Q (.inl none) S)))))) ∧
        (¬ ((j_at (S.1 (a + 6)) 61 ((S.1 (a + 1) 6) + 1)) = (-1)) → (
          ∀ S4 : ev_S, S4 = (j_put S (a + 6) 61 ((S.1 (a + 1) 6) + 1) (-1)) → (
            ∀ S5 : ev_S, S5 = (ev_up S4 a 5 ((S4.1 a 5) - 1)) → (
              ev_Cv g m_X0_play 3 0 [ev_o 0 (a + 1), ev_i (j_at (S.1 (a + 6)) 61 ((S.1 (a + 1) 6) + 1))] S5 (fun o S6 => o = .inl none ∧ (
                ev_Cv g m_X1_noteWait 1 0 [ev_o 1 a, ev_i u1] S6 (fun o S7 => o = .inl none ∧ (
                  ev_E g m_X1_settle 4 0 2 [some (ev_o 1 a), some (ev_i u1), some (ev_i (u2 + 1)), none, none, none] [] S7 Q))))))))))))))) : ev_E g m_X1_settle 4 0 2 [some (ev_o 1 a), some (ev_i u1), some (ev_i u2), none, none, none] [] S Q := by
  refine ev_iload_n (u2) dX1_settle_2 rfl ?_
  refine ev_bipush (60) dX1_settle_3 (by decide) ?_
  refine ev_icmp_gt 177 dX1_settle_5 (by decide) (fun c1 => ?_) (fun c1 => ?_)
  · replace hQ := hQ.1 c1
    exact ev_return dX1_settle_177 rfl hQ
  · replace hQ := hQ.2 c1
    refine ev_aload_n (ev_o 1 a) dX1_settle_8 rfl rfl ?_
    refine gf_1_1 dX1_settle_9 kw_179 ?_
    refine ev_fV mv_X0_isFinished 3 0 [] [] dX1_settle_12 kw_1062 rfl (by decide) rfl (by decide) (Nat.le_of_ble_eq_true rfl) (sp_X0_isFinished (a + 1)) ?_ rfl
    by_cases c2 : (t_X0_isFinished S (a + 1)) = true
    · rw [if_pos c2]
      replace hQ := hQ.1 c2
      refine ev_if_ne 177 dX1_settle_15 (by decide) (fun _ => ?_) (fun h9 => absurd h9 (by decide : ¬ ((1 : Int32) = 0)))
      exact ev_return dX1_settle_177 rfl hQ
    · rw [if_neg c2]
      replace hQ := hQ.2 c2
      refine ev_if_ne 177 dX1_settle_15 (by decide) (fun h9 => absurd (by decide : ((0 : Int32) = 0)) h9) (fun _ => ?_)
      refine ev_aload_n (ev_o 1 a) dX1_settle_18 rfl rfl ?_
      refine gf_1_1 dX1_settle_19 kw_179 ?_
      refine ev_fV mv_X0_nextNumber 1 0 [] [] dX1_settle_22 kw_1067 rfl (by decide) rfl (by decide) (Nat.le_of_ble_eq_true rfl) (sp_X0_nextNumber (a + 1)) ?_ rfl
      refine ev_istore_n dX1_settle_25 (Nat.le_of_ble_eq_true rfl) (ev_hw rfl) ?_
      show ev_E g m_X1_settle 4 0 26 [some (ev_o 1 a), some (ev_i u1), some (ev_i u2), some (ev_i ((S.1 (a + 1) 6) + 1)), none, none] [] S Q
      refine ev_iload_n (((S.1 (a + 1) 6) + 1)) dX1_settle_26 rfl ?_
      refine ev_fN ms_X9_moverOf 1 [ev_i ((S.1 (a + 1) 6) + 1)] [] dX1_settle_27 (List.mem_of_getElem? (i := 21) rfl) rfl (by decide) (Nat.le_of_ble_eq_true rfl) (sp_X9_moverOf ((S.1 (a + 1) 6) + 1)) ?_ rfl
      refine ev_aload_n (ev_o 1 a) dX1_settle_30 rfl rfl ?_
      refine gf_1_0 dX1_settle_31 kw_178 ?_
      refine ev_icmp_ne 41 dX1_settle_34 (by decide) (fun c3 => ?_) (fun c3 => ?_)
      · replace hQ := hQ.2 c3
        refine ev_iconst (0) dX1_settle_41 rfl ?_
        refine ev_istore dX1_settle_42 (Nat.le_of_ble_eq_true rfl) (ev_hw rfl) ?_
        show ev_E g m_X1_settle 4 0 44 [some (ev_o 1 a), some (ev_i u1), some (ev_i u2), some (ev_i ((S.1 (a + 1) 6) + 1)), some (ev_i 0), none] [] S Q
        refine ev_aload_n (ev_o 1 a) dX1_settle_44 rfl rfl ?_
        refine gf_1_2 dX1_settle_45 kw_180 ?_
        refine ev_iload_n (((S.1 (a + 1) 6) + 1)) dX1_settle_48 rfl ?_
        refine ev_fN ms_X9_at 1 [ev_y 61 (a + 6), ev_i ((S.1 (a + 1) 6) + 1)] [] dX1_settle_49 (List.mem_of_getElem? (i := 25) rfl) rfl (by decide) (Nat.le_of_ble_eq_true rfl) (sp_X9_at 61 (a + 6) ((S.1 (a + 1) 6) + 1)) ?_ rfl
        refine ev_istore dX1_settle_52 (Nat.le_of_ble_eq_true rfl) (ev_hw rfl) ?_
        show ev_E g m_X1_settle 4 0 54 [some (ev_o 1 a), some (ev_i u1), some (ev_i u2), some (ev_i ((S.1 (a + 1) 6) + 1)), some (ev_i 0), some (ev_i (j_at (S.1 (a + 6)) 61 ((S.1 (a + 1) 6) + 1)))] [] S Q
        refine ev_iload ((j_at (S.1 (a + 6)) 61 ((S.1 (a + 1) 6) + 1))) dX1_settle_54 rfl ?_
        refine ev_iconst (-1) dX1_settle_56 rfl ?_
        refine ev_icmp_eq 82 dX1_settle_57 (by decide) (fun c4 => ?_) (fun c4 => ?_)
        · replace hQ := hQ.1 c4
          refine ev_aload_n (ev_o 1 a) dX1_settle_82 rfl rfl ?_
          refine ev_iload_n (((S.1 (a + 1) 6) + 1)) dX1_settle_83 rfl ?_
          refine ev_fV mv_X1_hasPromise 2 1 [ev_i ((S.1 (a + 1) 6) + 1)] [] dX1_settle_84 kw_1448 rfl (by decide) rfl (by decide) (Nat.le_of_ble_eq_true rfl) (sp_X1_hasPromise a ((S.1 (a + 1) 6) + 1)) ?_ rfl
          by_cases c5 : (j_at (S.1 (a + 8)) 61 ((S.1 (a + 1) 6) + 1)) = (-1)
          · rw [if_pos c5]
            replace hQ := hQ.1 c5
            refine ev_if_eq 143 dX1_settle_87 (by decide) (fun _ => ?_) (fun h9 => absurd (by decide : ((0 : Int32) = 0)) h9)
            exact ev_return dX1_settle_143 rfl hQ
          · rw [if_neg c5]
            replace hQ := hQ.2 c5
            refine ev_if_eq 143 dX1_settle_87 (by decide) (fun h9 => absurd h9 (by decide : ¬ ((1 : Int32) = 0))) (fun _ => ?_)
            refine ev_aload_n (ev_o 1 a) dX1_settle_90 rfl rfl ?_
            refine gf_1_3 dX1_settle_91 kw_181 ?_
            refine ev_iload_n (((S.1 (a + 1) 6) + 1)) dX1_settle_94 rfl ?_
            refine ev_fN ms_X9_at 1 [ev_y 61 (a + 7), ev_i ((S.1 (a + 1) 6) + 1)] [] dX1_settle_95 (List.mem_of_getElem? (i := 25) rfl) rfl (by decide) (Nat.le_of_ble_eq_true rfl) (sp_X9_at 61 (a + 7) ((S.1 (a + 1) 6) + 1)) ?_ rfl
            refine ev_aload_n (ev_o 1 a) dX1_settle_98 rfl rfl ?_
            refine gf_1_1 dX1_settle_99 kw_179 ?_
            refine ev_iload_n (((S.1 (a + 1) 6) + 1)) dX1_settle_102 rfl ?_
            refine ev_iconst (1) dX1_settle_103 rfl ?_
            refine ev_isub dX1_settle_104 ?_
            refine ev_fV mv_X0_moveAt 2 0 [ev_i (((S.1 (a + 1) 6) + 1) - 1)] [ev_i (j_at (S.1 (a + 7)) 61 ((S.1 (a + 1) 6) + 1))] dX1_settle_105 kw_1463 rfl (by decide) rfl (by decide) (Nat.le_of_ble_eq_true rfl) (sp_X0_moveAt (a + 1) (((S.1 (a + 1) 6) + 1) - 1)) ?_ rfl
            refine ev_icmp_ne 143 dX1_settle_108 (by decide) (fun c6 => ?_) (fun c6 => ?_)
            · replace hQ := hQ.2 c6
              exact ev_return dX1_settle_143 rfl hQ
            · replace hQ := hQ.1 c6
              refine ev_aload_n (ev_o 1 a) dX1_settle_111 rfl rfl ?_
              refine gf_1_4 dX1_settle_112 kw_182 ?_
              refine ev_iload_n (((S.1 (a + 1) 6) + 1)) dX1_settle_115 rfl ?_
              refine ev_fN ms_X9_at 1 [ev_y 61 (a + 8), ev_i ((S.1 (a + 1) 6) + 1)] [] dX1_settle_116 (List.mem_of_getElem? (i := 25) rfl) rfl (by decide) (Nat.le_of_ble_eq_true rfl) (sp_X9_at 61 (a + 8) ((S.1 (a + 1) 6) + 1)) ?_ rfl
              refine ev_istore dX1_settle_119 (Nat.le_of_ble_eq_true rfl) (ev_hw rfl) ?_
              show ev_E g m_X1_settle 4 0 121 [some (ev_o 1 a), some (ev_i u1), some (ev_i u2), some (ev_i ((S.1 (a + 1) 6) + 1)), some (ev_i 0), some (ev_i (j_at (S.1 (a + 8)) 61 ((S.1 (a + 1) 6) + 1)))] [] S Q
              refine ev_aload_n (ev_o 1 a) dX1_settle_121 rfl rfl ?_
              refine ev_dup dX1_settle_122 rfl ?_
              refine gf_1_6 dX1_settle_123 kw_184 ?_
              refine ev_iload (0) dX1_settle_126 rfl ?_
              refine ev_if_eq 135 dX1_settle_128 (by decide) (fun _ => ?_) (fun h9 => absurd (by decide : ((0 : Int32) = 0)) h9)
              refine ev_iconst (0) dX1_settle_135 rfl ?_
              refine ev_iadd dX1_settle_136 ?_
              refine pf_1_6 dX1_settle_137 kw_184 ?_
              refine ev_sub hQ (fun S1 hS1 hQ => ?_)
              refine ev_E.goal (pc' := 140) (L' := [some (ev_o 1 a), some (ev_i u1), some (ev_i u2), some (ev_i ((S.1 (a + 1) 6) + 1)), some (ev_i 0), some (ev_i (j_at (S.1 (a + 8)) 61 ((S.1 (a + 1) 6) + 1)))]) (K' := []) (S' := S1) ?_ rfl rfl rfl hS1
              refine ev_goto 144 dX1_settle_140 (by decide) ?_
              refine ev_aload_n (ev_o 1 a) dX1_settle_144 rfl rfl ?_
              refine gf_1_1 dX1_settle_145 kw_179 ?_
              refine ev_iload ((j_at (S.1 (a + 8)) 61 ((S.1 (a + 1) 6) + 1))) dX1_settle_148 rfl ?_
              refine ev_cV mv_X0_play 3 0 0 [ev_i (j_at (S.1 (a + 8)) 61 ((S.1 (a + 1) 6) + 1))] [] dX1_settle_150 kw_1464 rfl (by decide) rfl (by decide) (by decide) (Nat.le_of_ble_eq_true rfl) hQ ?_ rfl
              rintro o S2 ⟨rfl, hQ⟩
              show ev_E g m_X1_settle 4 0 153 [some (ev_o 1 a), some (ev_i u1), some (ev_i u2), some (ev_i ((S.1 (a + 1) 6) + 1)), some (ev_i 0), some (ev_i (j_at (S.1 (a + 8)) 61 ((S.1 (a + 1) 6) + 1)))] [] S2 Q
              refine ev_iload (0) dX1_settle_153 rfl ?_
              refine ev_if_eq 166 dX1_settle_155 (by decide) (fun _ => ?_) (fun h9 => absurd (by decide : ((0 : Int32) = 0)) h9)
              refine ev_aload_n (ev_o 1 a) dX1_settle_166 rfl rfl ?_
              refine ev_iload_n (u1) dX1_settle_167 rfl ?_
              refine ev_cV mv_X1_noteWait 1 0 1 [ev_i u1] [] dX1_settle_168 kw_1470 rfl (by decide) rfl (by decide) (by decide) (Nat.le_of_ble_eq_true rfl) hQ ?_ rfl
              rintro o S3 ⟨rfl, hQ⟩
              show ev_E g m_X1_settle 4 0 171 [some (ev_o 1 a), some (ev_i u1), some (ev_i u2), some (ev_i ((S.1 (a + 1) 6) + 1)), some (ev_i 0), some (ev_i (j_at (S.1 (a + 8)) 61 ((S.1 (a + 1) 6) + 1)))] [] S3 Q
              refine ev_iinc u2 (1) dX1_settle_171 rfl (by decide) (ev_hw rfl) ?_
              show ev_E g m_X1_settle 4 0 174 [some (ev_o 1 a), some (ev_i u1), some (ev_i (u2 + 1)), some (ev_i ((S.1 (a + 1) 6) + 1)), some (ev_i 0), some (ev_i (j_at (S.1 (a + 8)) 61 ((S.1 (a + 1) 6) + 1)))] [] S3 Q
              refine ev_goto 2 dX1_settle_174 (by decide) ?_
              refine ev_fgm [true, true, true, false, false, false] ?_
              exact hQ
        · replace hQ := hQ.2 c4
          refine ev_aload_n (ev_o 1 a) dX1_settle_60 rfl rfl ?_
          refine gf_1_2 dX1_settle_61 kw_180 ?_
          refine ev_iload_n (((S.1 (a + 1) 6) + 1)) dX1_settle_64 rfl ?_
          refine ev_iconst (-1) dX1_settle_65 rfl ?_
          refine ev_fNn ms_X9_put 1 [ev_y 61 (a + 6), ev_i ((S.1 (a + 1) 6) + 1), ev_i (-1)] [] dX1_settle_66 (List.mem_of_getElem? (i := 26) rfl) rfl (by decide) (Nat.le_of_ble_eq_true rfl) (sp_X9_put 61 (a + 6) ((S.1 (a + 1) 6) + 1) (-1)) ?_ rfl
          refine ev_sub hQ (fun S4 hS4 hQ => ?_)
          refine ev_E.goal (pc' := 69) (L' := [some (ev_o 1 a), some (ev_i u1), some (ev_i u2), some (ev_i ((S.1 (a + 1) 6) + 1)), some (ev_i 0), some (ev_i (j_at (S.1 (a + 6)) 61 ((S.1 (a + 1) 6) + 1)))]) (K' := []) (S' := S4) ?_ rfl rfl rfl hS4
          refine ev_aload_n (ev_o 1 a) dX1_settle_69 rfl rfl ?_
          refine ev_dup dX1_settle_70 rfl ?_
          refine gf_1_5 dX1_settle_71 kw_183 ?_
          refine ev_iconst (1) dX1_settle_74 rfl ?_
          refine ev_isub dX1_settle_75 ?_
          refine pf_1_5 dX1_settle_76 kw_183 ?_
          refine ev_sub hQ (fun S5 hS5 hQ => ?_)
          refine ev_E.goal (pc' := 79) (L' := [some (ev_o 1 a), some (ev_i u1), some (ev_i u2), some (ev_i ((S.1 (a + 1) 6) + 1)), some (ev_i 0), some (ev_i (j_at (S.1 (a + 6)) 61 ((S.1 (a + 1) 6) + 1)))]) (K' := []) (S' := S5) ?_ rfl rfl rfl hS5
          refine ev_goto 144 dX1_settle_79 (by decide) ?_
          refine ev_aload_n (ev_o 1 a) dX1_settle_144 rfl rfl ?_
          refine gf_1_1 dX1_settle_145 kw_179 ?_
          refine ev_iload ((j_at (S.1 (a + 6)) 61 ((S.1 (a + 1) 6) + 1))) dX1_settle_148 rfl ?_
          refine ev_cV mv_X0_play 3 0 0 [ev_i (j_at (S.1 (a + 6)) 61 ((S.1 (a + 1) 6) + 1))] [] dX1_settle_150 kw_1464 rfl (by decide) rfl (by decide) (by decide) (Nat.le_of_ble_eq_true rfl) hQ ?_ rfl
          rintro o S6 ⟨rfl, hQ⟩
          show ev_E g m_X1_settle 4 0 153 [some (ev_o 1 a), some (ev_i u1), some (ev_i u2), some (ev_i ((S.1 (a + 1) 6) + 1)), some (ev_i 0), some (ev_i (j_at (S.1 (a + 6)) 61 ((S.1 (a + 1) 6) + 1)))] [] S6 Q
          refine ev_iload (0) dX1_settle_153 rfl ?_
          refine ev_if_eq 166 dX1_settle_155 (by decide) (fun _ => ?_) (fun h9 => absurd (by decide : ((0 : Int32) = 0)) h9)
          refine ev_aload_n (ev_o 1 a) dX1_settle_166 rfl rfl ?_
          refine ev_iload_n (u1) dX1_settle_167 rfl ?_
          refine ev_cV mv_X1_noteWait 1 0 1 [ev_i u1] [] dX1_settle_168 kw_1470 rfl (by decide) rfl (by decide) (by decide) (Nat.le_of_ble_eq_true rfl) hQ ?_ rfl
          rintro o S7 ⟨rfl, hQ⟩
          show ev_E g m_X1_settle 4 0 171 [some (ev_o 1 a), some (ev_i u1), some (ev_i u2), some (ev_i ((S.1 (a + 1) 6) + 1)), some (ev_i 0), some (ev_i (j_at (S.1 (a + 6)) 61 ((S.1 (a + 1) 6) + 1)))] [] S7 Q
          refine ev_iinc u2 (1) dX1_settle_171 rfl (by decide) (ev_hw rfl) ?_
          show ev_E g m_X1_settle 4 0 174 [some (ev_o 1 a), some (ev_i u1), some (ev_i (u2 + 1)), some (ev_i ((S.1 (a + 1) 6) + 1)), some (ev_i 0), some (ev_i (j_at (S.1 (a + 6)) 61 ((S.1 (a + 1) 6) + 1)))] [] S7 Q
          refine ev_goto 2 dX1_settle_174 (by decide) ?_
          refine ev_fgm [true, true, true, false, false, false] ?_
          exact hQ
      · replace hQ := hQ.1 c3
        refine ev_iconst (1) dX1_settle_37 rfl ?_
        refine ev_goto 42 dX1_settle_38 (by decide) ?_
        refine ev_istore dX1_settle_42 (Nat.le_of_ble_eq_true rfl) (ev_hw rfl) ?_
        show ev_E g m_X1_settle 4 0 44 [some (ev_o 1 a), some (ev_i u1), some (ev_i u2), some (ev_i ((S.1 (a + 1) 6) + 1)), some (ev_i 1), none] [] S Q
        refine ev_aload_n (ev_o 1 a) dX1_settle_44 rfl rfl ?_
        refine gf_1_2 dX1_settle_45 kw_180 ?_
        refine ev_iload_n (((S.1 (a + 1) 6) + 1)) dX1_settle_48 rfl ?_
        refine ev_fN ms_X9_at 1 [ev_y 61 (a + 6), ev_i ((S.1 (a + 1) 6) + 1)] [] dX1_settle_49 (List.mem_of_getElem? (i := 25) rfl) rfl (by decide) (Nat.le_of_ble_eq_true rfl) (sp_X9_at 61 (a + 6) ((S.1 (a + 1) 6) + 1)) ?_ rfl
        refine ev_istore dX1_settle_52 (Nat.le_of_ble_eq_true rfl) (ev_hw rfl) ?_
        show ev_E g m_X1_settle 4 0 54 [some (ev_o 1 a), some (ev_i u1), some (ev_i u2), some (ev_i ((S.1 (a + 1) 6) + 1)), some (ev_i 1), some (ev_i (j_at (S.1 (a + 6)) 61 ((S.1 (a + 1) 6) + 1)))] [] S Q
        refine ev_iload ((j_at (S.1 (a + 6)) 61 ((S.1 (a + 1) 6) + 1))) dX1_settle_54 rfl ?_
        refine ev_iconst (-1) dX1_settle_56 rfl ?_
        refine ev_icmp_eq 82 dX1_settle_57 (by decide) (fun c7 => ?_) (fun c7 => ?_)
        · replace hQ := hQ.1 c7
          refine ev_aload_n (ev_o 1 a) dX1_settle_82 rfl rfl ?_
          refine ev_iload_n (((S.1 (a + 1) 6) + 1)) dX1_settle_83 rfl ?_
          refine ev_fV mv_X1_hasPromise 2 1 [ev_i ((S.1 (a + 1) 6) + 1)] [] dX1_settle_84 kw_1448 rfl (by decide) rfl (by decide) (Nat.le_of_ble_eq_true rfl) (sp_X1_hasPromise a ((S.1 (a + 1) 6) + 1)) ?_ rfl
          by_cases c8 : (j_at (S.1 (a + 8)) 61 ((S.1 (a + 1) 6) + 1)) = (-1)
          · rw [if_pos c8]
            replace hQ := hQ.1 c8
            refine ev_if_eq 143 dX1_settle_87 (by decide) (fun _ => ?_) (fun h9 => absurd (by decide : ((0 : Int32) = 0)) h9)
            exact ev_return dX1_settle_143 rfl hQ
          · rw [if_neg c8]
            replace hQ := hQ.2 c8
            refine ev_if_eq 143 dX1_settle_87 (by decide) (fun h9 => absurd h9 (by decide : ¬ ((1 : Int32) = 0))) (fun _ => ?_)
            refine ev_aload_n (ev_o 1 a) dX1_settle_90 rfl rfl ?_
            refine gf_1_3 dX1_settle_91 kw_181 ?_
            refine ev_iload_n (((S.1 (a + 1) 6) + 1)) dX1_settle_94 rfl ?_
            refine ev_fN ms_X9_at 1 [ev_y 61 (a + 7), ev_i ((S.1 (a + 1) 6) + 1)] [] dX1_settle_95 (List.mem_of_getElem? (i := 25) rfl) rfl (by decide) (Nat.le_of_ble_eq_true rfl) (sp_X9_at 61 (a + 7) ((S.1 (a + 1) 6) + 1)) ?_ rfl
            refine ev_aload_n (ev_o 1 a) dX1_settle_98 rfl rfl ?_
            refine gf_1_1 dX1_settle_99 kw_179 ?_
            refine ev_iload_n (((S.1 (a + 1) 6) + 1)) dX1_settle_102 rfl ?_
            refine ev_iconst (1) dX1_settle_103 rfl ?_
            refine ev_isub dX1_settle_104 ?_
            refine ev_fV mv_X0_moveAt 2 0 [ev_i (((S.1 (a + 1) 6) + 1) - 1)] [ev_i (j_at (S.1 (a + 7)) 61 ((S.1 (a + 1) 6) + 1))] dX1_settle_105 kw_1463 rfl (by decide) rfl (by decide) (Nat.le_of_ble_eq_true rfl) (sp_X0_moveAt (a + 1) (((S.1 (a + 1) 6) + 1) - 1)) ?_ rfl
            refine ev_icmp_ne 143 dX1_settle_108 (by decide) (fun c9 => ?_) (fun c9 => ?_)
            · replace hQ := hQ.2 c9
              exact ev_return dX1_settle_143 rfl hQ
            · replace hQ := hQ.1 c9
              refine ev_aload_n (ev_o 1 a) dX1_settle_111 rfl rfl ?_
              refine gf_1_4 dX1_settle_112 kw_182 ?_
              refine ev_iload_n (((S.1 (a + 1) 6) + 1)) dX1_settle_115 rfl ?_
              refine ev_fN ms_X9_at 1 [ev_y 61 (a + 8), ev_i ((S.1 (a + 1) 6) + 1)] [] dX1_settle_116 (List.mem_of_getElem? (i := 25) rfl) rfl (by decide) (Nat.le_of_ble_eq_true rfl) (sp_X9_at 61 (a + 8) ((S.1 (a + 1) 6) + 1)) ?_ rfl
              refine ev_istore dX1_settle_119 (Nat.le_of_ble_eq_true rfl) (ev_hw rfl) ?_
              show ev_E g m_X1_settle 4 0 121 [some (ev_o 1 a), some (ev_i u1), some (ev_i u2), some (ev_i ((S.1 (a + 1) 6) + 1)), some (ev_i 1), some (ev_i (j_at (S.1 (a + 8)) 61 ((S.1 (a + 1) 6) + 1)))] [] S Q
              refine ev_aload_n (ev_o 1 a) dX1_settle_121 rfl rfl ?_
              refine ev_dup dX1_settle_122 rfl ?_
              refine gf_1_6 dX1_settle_123 kw_184 ?_
              refine ev_iload (1) dX1_settle_126 rfl ?_
              refine ev_if_eq 135 dX1_settle_128 (by decide) (fun h9 => absurd h9 (by decide : ¬ ((1 : Int32) = 0))) (fun _ => ?_)
              refine ev_iconst (1) dX1_settle_131 rfl ?_
              refine ev_goto 136 dX1_settle_132 (by decide) ?_
              refine ev_iadd dX1_settle_136 ?_
              refine pf_1_6 dX1_settle_137 kw_184 ?_
              refine ev_sub hQ (fun S8 hS8 hQ => ?_)
              refine ev_E.goal (pc' := 140) (L' := [some (ev_o 1 a), some (ev_i u1), some (ev_i u2), some (ev_i ((S.1 (a + 1) 6) + 1)), some (ev_i 1), some (ev_i (j_at (S.1 (a + 8)) 61 ((S.1 (a + 1) 6) + 1)))]) (K' := []) (S' := S8) ?_ rfl rfl rfl hS8
              refine ev_goto 144 dX1_settle_140 (by decide) ?_
              refine ev_aload_n (ev_o 1 a) dX1_settle_144 rfl rfl ?_
              refine gf_1_1 dX1_settle_145 kw_179 ?_
              refine ev_iload ((j_at (S.1 (a + 8)) 61 ((S.1 (a + 1) 6) + 1))) dX1_settle_148 rfl ?_
              refine ev_cV mv_X0_play 3 0 0 [ev_i (j_at (S.1 (a + 8)) 61 ((S.1 (a + 1) 6) + 1))] [] dX1_settle_150 kw_1464 rfl (by decide) rfl (by decide) (by decide) (Nat.le_of_ble_eq_true rfl) hQ ?_ rfl
              rintro o S9 ⟨rfl, hQ⟩
              show ev_E g m_X1_settle 4 0 153 [some (ev_o 1 a), some (ev_i u1), some (ev_i u2), some (ev_i ((S.1 (a + 1) 6) + 1)), some (ev_i 1), some (ev_i (j_at (S.1 (a + 8)) 61 ((S.1 (a + 1) 6) + 1)))] [] S9 Q
              refine ev_iload (1) dX1_settle_153 rfl ?_
              refine ev_if_eq 166 dX1_settle_155 (by decide) (fun h9 => absurd h9 (by decide : ¬ ((1 : Int32) = 0))) (fun _ => ?_)
              refine ev_aload_n (ev_o 1 a) dX1_settle_158 rfl rfl ?_
              refine ev_iload_n (u1) dX1_settle_159 rfl ?_
              refine pf_1_7 dX1_settle_160 kw_185 ?_
              refine ev_sub hQ (fun S10 hS10 hQ => ?_)
              refine ev_E.goal (pc' := 163) (L' := [some (ev_o 1 a), some (ev_i u1), some (ev_i u2), some (ev_i ((S.1 (a + 1) 6) + 1)), some (ev_i 1), some (ev_i (j_at (S.1 (a + 8)) 61 ((S.1 (a + 1) 6) + 1)))]) (K' := []) (S' := S10) ?_ rfl rfl rfl hS10
              refine ev_goto 171 dX1_settle_163 (by decide) ?_
              refine ev_iinc u2 (1) dX1_settle_171 rfl (by decide) (ev_hw rfl) ?_
              show ev_E g m_X1_settle 4 0 174 [some (ev_o 1 a), some (ev_i u1), some (ev_i (u2 + 1)), some (ev_i ((S.1 (a + 1) 6) + 1)), some (ev_i 1), some (ev_i (j_at (S.1 (a + 8)) 61 ((S.1 (a + 1) 6) + 1)))] [] S10 Q
              refine ev_goto 2 dX1_settle_174 (by decide) ?_
              refine ev_fgm [true, true, true, false, false, false] ?_
              exact hQ
        · replace hQ := hQ.2 c7
          refine ev_aload_n (ev_o 1 a) dX1_settle_60 rfl rfl ?_
          refine gf_1_2 dX1_settle_61 kw_180 ?_
          refine ev_iload_n (((S.1 (a + 1) 6) + 1)) dX1_settle_64 rfl ?_
          refine ev_iconst (-1) dX1_settle_65 rfl ?_
          refine ev_fNn ms_X9_put 1 [ev_y 61 (a + 6), ev_i ((S.1 (a + 1) 6) + 1), ev_i (-1)] [] dX1_settle_66 (List.mem_of_getElem? (i := 26) rfl) rfl (by decide) (Nat.le_of_ble_eq_true rfl) (sp_X9_put 61 (a + 6) ((S.1 (a + 1) 6) + 1) (-1)) ?_ rfl
          refine ev_sub hQ (fun S11 hS11 hQ => ?_)
          refine ev_E.goal (pc' := 69) (L' := [some (ev_o 1 a), some (ev_i u1), some (ev_i u2), some (ev_i ((S.1 (a + 1) 6) + 1)), some (ev_i 1), some (ev_i (j_at (S.1 (a + 6)) 61 ((S.1 (a + 1) 6) + 1)))]) (K' := []) (S' := S11) ?_ rfl rfl rfl hS11
          refine ev_aload_n (ev_o 1 a) dX1_settle_69 rfl rfl ?_
          refine ev_dup dX1_settle_70 rfl ?_
          refine gf_1_5 dX1_settle_71 kw_183 ?_
          refine ev_iconst (1) dX1_settle_74 rfl ?_
          refine ev_isub dX1_settle_75 ?_
          refine pf_1_5 dX1_settle_76 kw_183 ?_
          refine ev_sub hQ (fun S12 hS12 hQ => ?_)
          refine ev_E.goal (pc' := 79) (L' := [some (ev_o 1 a), some (ev_i u1), some (ev_i u2), some (ev_i ((S.1 (a + 1) 6) + 1)), some (ev_i 1), some (ev_i (j_at (S.1 (a + 6)) 61 ((S.1 (a + 1) 6) + 1)))]) (K' := []) (S' := S12) ?_ rfl rfl rfl hS12
          refine ev_goto 144 dX1_settle_79 (by decide) ?_
          refine ev_aload_n (ev_o 1 a) dX1_settle_144 rfl rfl ?_
          refine gf_1_1 dX1_settle_145 kw_179 ?_
          refine ev_iload ((j_at (S.1 (a + 6)) 61 ((S.1 (a + 1) 6) + 1))) dX1_settle_148 rfl ?_
          refine ev_cV mv_X0_play 3 0 0 [ev_i (j_at (S.1 (a + 6)) 61 ((S.1 (a + 1) 6) + 1))] [] dX1_settle_150 kw_1464 rfl (by decide) rfl (by decide) (by decide) (Nat.le_of_ble_eq_true rfl) hQ ?_ rfl
          rintro o S13 ⟨rfl, hQ⟩
          show ev_E g m_X1_settle 4 0 153 [some (ev_o 1 a), some (ev_i u1), some (ev_i u2), some (ev_i ((S.1 (a + 1) 6) + 1)), some (ev_i 1), some (ev_i (j_at (S.1 (a + 6)) 61 ((S.1 (a + 1) 6) + 1)))] [] S13 Q
          refine ev_iload (1) dX1_settle_153 rfl ?_
          refine ev_if_eq 166 dX1_settle_155 (by decide) (fun h9 => absurd h9 (by decide : ¬ ((1 : Int32) = 0))) (fun _ => ?_)
          refine ev_aload_n (ev_o 1 a) dX1_settle_158 rfl rfl ?_
          refine ev_iload_n (u1) dX1_settle_159 rfl ?_
          refine pf_1_7 dX1_settle_160 kw_185 ?_
          refine ev_sub hQ (fun S14 hS14 hQ => ?_)
          refine ev_E.goal (pc' := 163) (L' := [some (ev_o 1 a), some (ev_i u1), some (ev_i u2), some (ev_i ((S.1 (a + 1) 6) + 1)), some (ev_i 1), some (ev_i (j_at (S.1 (a + 6)) 61 ((S.1 (a + 1) 6) + 1)))]) (K' := []) (S' := S14) ?_ rfl rfl rfl hS14
          refine ev_goto 171 dX1_settle_163 (by decide) ?_
          refine ev_iinc u2 (1) dX1_settle_171 rfl (by decide) (ev_hw rfl) ?_
          show ev_E g m_X1_settle 4 0 174 [some (ev_o 1 a), some (ev_i u1), some (ev_i (u2 + 1)), some (ev_i ((S.1 (a + 1) 6) + 1)), some (ev_i 1), some (ev_i (j_at (S.1 (a + 6)) 61 ((S.1 (a + 1) 6) + 1)))] [] S14 Q
          refine ev_goto 2 dX1_settle_174 (by decide) ?_
          refine ev_fgm [true, true, true, false, false, false] ?_
          exact hQ
set_option maxHeartbeats 4000000 in
set_option maxRecDepth 100000 in
theorem sg_X2_passDay_0 {g : ev_G} {S : ev_S} {Q : ev_O → ev_S → Prop} (a : Nat) (hQ : ∀ S1 : ev_S, S1 = (ev_up S a 4 ((S.1 a 4) + 1)) → (
    ev_Cv g m_X6_passDay 4 0 [ev_o 6 (a + 19), ev_i ((S.1 a 4) + 1)] S1 (fun o S2 => ∃ v1_ : Int32, o = .inl (some (ev_i v1_)) ∧ (
      ev_E g m_X2_passDay 5 0 24 [some (ev_o 2 a), some (ev_i v1_), some (ev_i 0), none, none] [] S2 Q)))) : ev_Cv g m_X2_passDay 5 0 [ev_o 2 a] S Q := by
  refine ev_enter (by decide) rfl rfl (Nat.le_of_ble_eq_true rfl) ?_
  show ev_E g m_X2_passDay 5 0 0 [some (ev_o 2 a), none, none, none, none] [] S Q
  refine ev_aload_n (ev_o 2 a) dX2_passDay_0 rfl rfl ?_
  refine ev_dup dX2_passDay_1 rfl ?_
  refine gf_2_4 dX2_passDay_2 kw_301 ?_
  refine ev_iconst (1) dX2_passDay_5 rfl ?_
  refine ev_iadd dX2_passDay_6 ?_
  refine pf_2_4 dX2_passDay_7 kw_301 ?_
  refine ev_sub hQ (fun S1 hS1 hQ => ?_)
  refine ev_E.goal (pc' := 10) (L' := [some (ev_o 2 a), none, none, none, none]) (K' := []) (S' := S1) ?_ rfl rfl rfl hS1
  refine ev_aload_n (ev_o 2 a) dX2_passDay_10 rfl rfl ?_
  refine gf_2_2 dX2_passDay_11 kw_299 ?_
  refine ev_aload_n (ev_o 2 a) dX2_passDay_14 rfl rfl ?_
  refine gf_2_4 dX2_passDay_15 kw_301 ?_
  refine ev_ke (j_rs hS1) ?_
  refine ev_cV mv_X6_passDay 4 0 6 [ev_i ((S.1 a 4) + 1)] [] dX2_passDay_18 kw_1403 rfl (by decide) rfl (by decide) (by decide) (Nat.le_of_ble_eq_true rfl) hQ ?_ rfl
  rintro o S2 ⟨v1_, rfl, hQ⟩
  show ev_E g m_X2_passDay 5 0 21 [some (ev_o 2 a), none, none, none, none] [ev_i v1_] S2 Q
  refine ev_istore_n dX2_passDay_21 (Nat.le_of_ble_eq_true rfl) (ev_hw rfl) ?_
  show ev_E g m_X2_passDay 5 0 22 [some (ev_o 2 a), some (ev_i v1_), none, none, none] [] S2 Q
  refine ev_iconst (0) dX2_passDay_22 rfl ?_
  refine ev_istore_n dX2_passDay_23 (Nat.le_of_ble_eq_true rfl) (ev_hw rfl) ?_
  show ev_E g m_X2_passDay 5 0 24 [some (ev_o 2 a), some (ev_i v1_), some (ev_i 0), none, none] [] S2 Q
  exact hQ
set_option maxHeartbeats 4000000 in
set_option maxRecDepth 100000 in
theorem sg_X2_passDay_24 {g : ev_G} {S : ev_S} {Q : ev_O → ev_S → Prop} (a : Nat) (u1 : Int32) (u2 : Int32) (hQ : (u1 ≤ u2 → (
    Q (.inl (some (ev_i u1))) S)) ∧
  (¬ (u1 ≤ u2) → (
    ev_Cv g m_X1_takeIn 3 0 [ev_o 1 (a_X2_deskOf a (1 - (j_at (S.1 (a + 24)) 84 (j_at (S.1 (a + 34)) 84 u2)))), ev_i (j_at (S.1 (a + 25)) 84 (j_at (S.1 (a + 34)) 84 u2)), ev_i (j_at (S.1 (a + 26)) 84 (j_at (S.1 (a + 34)) 84 u2)), ev_i (j_at (S.1 (a + 27)) 84 (j_at (S.1 (a + 34)) 84 u2))] S (fun o S1 => ∃ v1_ : Bool, o = .inl (some (ev_i (if v1_ = true then 1 else 0))) ∧ (
      (v1_ = true → (
        ev_Cv g m_X1_settle 4 0 [ev_o 1 (a_X2_deskOf a (1 - (j_at (S.1 (a + 24)) 84 (j_at (S.1 (a + 34)) 84 u2)))), ev_i (S1.1 a 4)] S1 (fun o S2 => o = .inl none ∧ (
          ev_E g m_X2_passDay 5 0 24 [some (ev_o 2 a), some (ev_i u1), some (ev_i (u2 + 1)), none, none] [] S2 Q)))) ∧
      (¬ (v1_ = true) → (
        ∀ S3 : ev_S, S3 = (ev_up S1 a 5 ((S1.1 a 5) + 1)) → (
          ev_Cv g m_X1_settle 4 0 [ev_o 1 (a_X2_deskOf a (1 - (j_at (S.1 (a + 24)) 84 (j_at (S.1 (a + 34)) 84 u2)))), ev_i (S1.1 a 4)] S3 (fun o S4 => o = .inl none ∧ (
            ev_E g m_X2_passDay 5 0 24 [some (ev_o 2 a), some (ev_i u1), some (ev_i (u2 + 1)), none, none] [] S4 Q)))))))))) : ev_E g m_X2_passDay 5 0 24 [some (ev_o 2 a), some (ev_i u1), some (ev_i u2), none, none] [] S Q := by
  refine ev_iload_n (u2) dX2_passDay_24 rfl ?_
  refine ev_iload_n (u1) dX2_passDay_25 rfl ?_
  refine ev_icmp_ge 111 dX2_passDay_26 (by decide) (fun c1 => ?_) (fun c1 => ?_)
  · replace hQ := hQ.1 c1
    refine ev_iload_n (u1) dX2_passDay_111 rfl ?_
    exact ev_ireturn .int dX2_passDay_112 rfl rfl hQ
  · replace hQ := hQ.2 c1
    refine ev_aload_n (ev_o 2 a) dX2_passDay_29 rfl rfl ?_
    refine gf_2_2 dX2_passDay_30 kw_299 ?_
    refine ev_iload_n (u2) dX2_passDay_33 rfl ?_
    refine ev_fV mv_X6_arrival 2 6 [ev_i u2] [] dX2_passDay_34 kw_1435 rfl (by decide) rfl (by decide) (Nat.le_of_ble_eq_true rfl) (sp_X6_arrival (a + 19) u2) ?_ rfl
    refine ev_istore_n dX2_passDay_37 (Nat.le_of_ble_eq_true rfl) (ev_hw rfl) ?_
    show ev_E g m_X2_passDay 5 0 38 [some (ev_o 2 a), some (ev_i u1), some (ev_i u2), some (ev_i (j_at (S.1 (a + 34)) 84 u2)), none] [] S Q
    refine ev_aload_n (ev_o 2 a) dX2_passDay_38 rfl rfl ?_
    refine ev_iconst (1) dX2_passDay_39 rfl ?_
    refine ev_aload_n (ev_o 2 a) dX2_passDay_40 rfl rfl ?_
    refine gf_2_2 dX2_passDay_41 kw_299 ?_
    refine ev_iload_n ((j_at (S.1 (a + 34)) 84 u2)) dX2_passDay_44 rfl ?_
    refine ev_fV mv_X6_writerOf 2 6 [ev_i (j_at (S.1 (a + 34)) 84 u2)] [ev_i 1, ev_o 2 a] dX2_passDay_45 kw_1104 rfl (by decide) rfl (by decide) (Nat.le_of_ble_eq_true rfl) (sp_X6_writerOf (a + 19) (j_at (S.1 (a + 34)) 84 u2)) ?_ rfl
    refine ev_isub dX2_passDay_48 ?_
    refine ev_fV mv_X2_deskOf 1 2 [ev_i (1 - (j_at (S.1 (a + 24)) 84 (j_at (S.1 (a + 34)) 84 u2)))] [] dX2_passDay_49 kw_492 rfl (by decide) rfl (by decide) (Nat.le_of_ble_eq_true rfl) (sp_X2_deskOf a (1 - (j_at (S.1 (a + 24)) 84 (j_at (S.1 (a + 34)) 84 u2)))) ?_ rfl
    refine ev_astore dX2_passDay_52 rfl (Nat.le_of_ble_eq_true rfl) (ev_hw rfl) ?_
    show ev_E g m_X2_passDay 5 0 54 [some (ev_o 2 a), some (ev_i u1), some (ev_i u2), some (ev_i (j_at (S.1 (a + 34)) 84 u2)), some (ev_o 1 (a_X2_deskOf a (1 - (j_at (S.1 (a + 24)) 84 (j_at (S.1 (a + 34)) 84 u2)))))] [] S Q
    refine ev_aload (ev_o 1 (a_X2_deskOf a (1 - (j_at (S.1 (a + 24)) 84 (j_at (S.1 (a + 34)) 84 u2))))) dX2_passDay_54 rfl rfl ?_
    refine ev_aload_n (ev_o 2 a) dX2_passDay_56 rfl rfl ?_
    refine gf_2_2 dX2_passDay_57 kw_299 ?_
    refine ev_iload_n ((j_at (S.1 (a + 34)) 84 u2)) dX2_passDay_60 rfl ?_
    refine ev_fV mv_X6_numberOf 2 6 [ev_i (j_at (S.1 (a + 34)) 84 u2)] [ev_o 1 (a_X2_deskOf a (1 - (j_at (S.1 (a + 24)) 84 (j_at (S.1 (a + 34)) 84 u2))))] dX2_passDay_61 kw_1113 rfl (by decide) rfl (by decide) (Nat.le_of_ble_eq_true rfl) (sp_X6_numberOf (a + 19) (j_at (S.1 (a + 34)) 84 u2)) ?_ rfl
    refine ev_aload_n (ev_o 2 a) dX2_passDay_64 rfl rfl ?_
    refine gf_2_2 dX2_passDay_65 kw_299 ?_
    refine ev_iload_n ((j_at (S.1 (a + 34)) 84 u2)) dX2_passDay_68 rfl ?_
    refine ev_fV mv_X6_moveIn 2 6 [ev_i (j_at (S.1 (a + 34)) 84 u2)] [ev_i (j_at (S.1 (a + 25)) 84 (j_at (S.1 (a + 34)) 84 u2)), ev_o 1 (a_X2_deskOf a (1 - (j_at (S.1 (a + 24)) 84 (j_at (S.1 (a + 34)) 84 u2))))] dX2_passDay_69 kw_1439 rfl (by decide) rfl (by decide) (Nat.le_of_ble_eq_true rfl) (sp_X6_moveIn (a + 19) (j_at (S.1 (a + 34)) 84 u2)) ?_ rfl
    refine ev_aload_n (ev_o 2 a) dX2_passDay_72 rfl rfl ?_
    refine gf_2_2 dX2_passDay_73 kw_299 ?_
    refine ev_iload_n ((j_at (S.1 (a + 34)) 84 u2)) dX2_passDay_76 rfl ?_
    refine ev_fV mv_X6_expectedOf 2 6 [ev_i (j_at (S.1 (a + 34)) 84 u2)] [ev_i (j_at (S.1 (a + 26)) 84 (j_at (S.1 (a + 34)) 84 u2)), ev_i (j_at (S.1 (a + 25)) 84 (j_at (S.1 (a + 34)) 84 u2)), ev_o 1 (a_X2_deskOf a (1 - (j_at (S.1 (a + 24)) 84 (j_at (S.1 (a + 34)) 84 u2))))] dX2_passDay_77 kw_1443 rfl (by decide) rfl (by decide) (Nat.le_of_ble_eq_true rfl) (sp_X6_expectedOf (a + 19) (j_at (S.1 (a + 34)) 84 u2)) ?_ rfl
    refine ev_cV mv_X1_takeIn 3 0 1 [ev_i (j_at (S.1 (a + 25)) 84 (j_at (S.1 (a + 34)) 84 u2)), ev_i (j_at (S.1 (a + 26)) 84 (j_at (S.1 (a + 34)) 84 u2)), ev_i (j_at (S.1 (a + 27)) 84 (j_at (S.1 (a + 34)) 84 u2))] [] dX2_passDay_80 kw_1444 rfl (by decide) rfl (by decide) (by decide) (Nat.le_of_ble_eq_true rfl) hQ ?_ rfl
    rintro o S1 ⟨v1_, rfl, hQ⟩
    show ev_E g m_X2_passDay 5 0 83 [some (ev_o 2 a), some (ev_i u1), some (ev_i u2), some (ev_i (j_at (S.1 (a + 34)) 84 u2)), some (ev_o 1 (a_X2_deskOf a (1 - (j_at (S.1 (a + 24)) 84 (j_at (S.1 (a + 34)) 84 u2)))))] [ev_i (if v1_ = true then 1 else 0)] S1 Q
    by_cases c2 : v1_ = true
    · rw [if_pos c2]
      replace hQ := hQ.1 c2
      refine ev_if_ne 96 dX2_passDay_83 (by decide) (fun _ => ?_) (fun h9 => absurd h9 (by decide : ¬ ((1 : Int32) = 0)))
      refine ev_aload (ev_o 1 (a_X2_deskOf a (1 - (j_at (S.1 (a + 24)) 84 (j_at (S.1 (a + 34)) 84 u2))))) dX2_passDay_96 rfl rfl ?_
      refine ev_aload_n (ev_o 2 a) dX2_passDay_98 rfl rfl ?_
      refine gf_2_4 dX2_passDay_99 kw_301 ?_
      refine ev_cV mv_X1_settle 4 0 1 [ev_i (S1.1 a 4)] [] dX2_passDay_102 kw_1459 rfl (by decide) rfl (by decide) (by decide) (Nat.le_of_ble_eq_true rfl) hQ ?_ rfl
      rintro o S2 ⟨rfl, hQ⟩
      show ev_E g m_X2_passDay 5 0 105 [some (ev_o 2 a), some (ev_i u1), some (ev_i u2), some (ev_i (j_at (S.1 (a + 34)) 84 u2)), some (ev_o 1 (a_X2_deskOf a (1 - (j_at (S.1 (a + 24)) 84 (j_at (S.1 (a + 34)) 84 u2)))))] [] S2 Q
      refine ev_iinc u2 (1) dX2_passDay_105 rfl (by decide) (ev_hw rfl) ?_
      show ev_E g m_X2_passDay 5 0 108 [some (ev_o 2 a), some (ev_i u1), some (ev_i (u2 + 1)), some (ev_i (j_at (S.1 (a + 34)) 84 u2)), some (ev_o 1 (a_X2_deskOf a (1 - (j_at (S.1 (a + 24)) 84 (j_at (S.1 (a + 34)) 84 u2)))))] [] S2 Q
      refine ev_goto 24 dX2_passDay_108 (by decide) ?_
      refine ev_fgm [true, true, true, false, false] ?_
      exact hQ
    · rw [if_neg c2]
      replace hQ := hQ.2 c2
      refine ev_if_ne 96 dX2_passDay_83 (by decide) (fun h9 => absurd (by decide : ((0 : Int32) = 0)) h9) (fun _ => ?_)
      refine ev_aload_n (ev_o 2 a) dX2_passDay_86 rfl rfl ?_
      refine ev_dup dX2_passDay_87 rfl ?_
      refine gf_2_5 dX2_passDay_88 kw_302 ?_
      refine ev_iconst (1) dX2_passDay_91 rfl ?_
      refine ev_iadd dX2_passDay_92 ?_
      refine pf_2_5 dX2_passDay_93 kw_302 ?_
      refine ev_sub hQ (fun S3 hS3 hQ => ?_)
      refine ev_E.goal (pc' := 96) (L' := [some (ev_o 2 a), some (ev_i u1), some (ev_i u2), some (ev_i (j_at (S.1 (a + 34)) 84 u2)), some (ev_o 1 (a_X2_deskOf a (1 - (j_at (S.1 (a + 24)) 84 (j_at (S.1 (a + 34)) 84 u2)))))]) (K' := []) (S' := S3) ?_ rfl rfl rfl hS3
      refine ev_aload (ev_o 1 (a_X2_deskOf a (1 - (j_at (S.1 (a + 24)) 84 (j_at (S.1 (a + 34)) 84 u2))))) dX2_passDay_96 rfl rfl ?_
      refine ev_aload_n (ev_o 2 a) dX2_passDay_98 rfl rfl ?_
      refine gf_2_4 dX2_passDay_99 kw_301 ?_
      refine ev_ke (j_rk hS3 (Or.inr (by decide))) ?_
      refine ev_cV mv_X1_settle 4 0 1 [ev_i (S1.1 a 4)] [] dX2_passDay_102 kw_1459 rfl (by decide) rfl (by decide) (by decide) (Nat.le_of_ble_eq_true rfl) hQ ?_ rfl
      rintro o S4 ⟨rfl, hQ⟩
      show ev_E g m_X2_passDay 5 0 105 [some (ev_o 2 a), some (ev_i u1), some (ev_i u2), some (ev_i (j_at (S.1 (a + 34)) 84 u2)), some (ev_o 1 (a_X2_deskOf a (1 - (j_at (S.1 (a + 24)) 84 (j_at (S.1 (a + 34)) 84 u2)))))] [] S4 Q
      refine ev_iinc u2 (1) dX2_passDay_105 rfl (by decide) (ev_hw rfl) ?_
      show ev_E g m_X2_passDay 5 0 108 [some (ev_o 2 a), some (ev_i u1), some (ev_i (u2 + 1)), some (ev_i (j_at (S.1 (a + 34)) 84 u2)), some (ev_o 1 (a_X2_deskOf a (1 - (j_at (S.1 (a + 24)) 84 (j_at (S.1 (a + 34)) 84 u2)))))] [] S4 Q
      refine ev_goto 24 dX2_passDay_108 (by decide) ?_
      refine ev_fgm [true, true, true, false, false] ?_
      exact hQ
set_option maxHeartbeats 4000000 in
set_option maxRecDepth 100000 in
theorem sg_X9_daysUntilTurn_0 {g : ev_G} {S : ev_S} {Q : ev_O → ev_S → Prop} (a : Nat) (x0 : Int32) (hQ : ((t_X9_isPlayer x0) = true → (
    ((t_X1_mayPlay S (a_X2_deskOf (a + 11) x0)) = true → (
      Q (.inl (some (ev_i 0))) S)) ∧
    (¬ ((t_X1_mayPlay S (a_X2_deskOf (a + 11) x0)) = true) → (
      ev_Cv g m_X2_copyFrom 4 0 [ev_o 2 (a + 52), ev_o 2 (a + 11)] S (fun o S1 => o = .inl none ∧ (
        ev_E g m_X9_daysUntilTurn 6 0 36 [some (ev_o 9 a), some (ev_i x0), some (ev_i 1)] [] S1 Q)))))) ∧
  (¬ ((t_X9_isPlayer x0) = true) → (
    Q (.inr 0) S))) : ev_Cv g m_X9_daysUntilTurn 6 1 [ev_o 9 a, ev_i x0] S Q := by
  refine ev_enter (by decide) rfl rfl (Nat.le_of_ble_eq_true rfl) ?_
  show ev_E g m_X9_daysUntilTurn 6 1 0 [some (ev_o 9 a), some (ev_i x0), none] [] S Q
  refine ev_iload_n (x0) dX9_daysUntilTurn_0 rfl ?_
  refine ev_fS ms_X9_isPlayer 1 [ev_i x0] [] dX9_daysUntilTurn_1 kw_954 rfl (by decide) (Nat.le_of_ble_eq_true rfl) (sp_X9_isPlayer x0) ?_ rfl
  by_cases c1 : (t_X9_isPlayer x0) = true
  · rw [if_pos c1]
    replace hQ := hQ.1 c1
    refine ev_cS ms_X9_require 1 1 [ev_i 1] [] dX9_daysUntilTurn_4 kw_966 rfl (by decide) (by decide) (Nat.le_of_ble_eq_true rfl) (Q' := fun o z => ev_After g m_X9_daysUntilTurn 6 (1 - 1) 4 [some (ev_o 9 a), some (ev_i x0), none] [] z Q o) (sg_X9_require_0 1 ?_) (fun o z h => h) rfl
    refine j_neg (by decide : ¬ ((1 : Int32) = 0)) ?_
    show ev_E g m_X9_daysUntilTurn 6 0 7 [some (ev_o 9 a), some (ev_i x0), none] [] S Q
    refine ev_aload_n (ev_o 9 a) dX9_daysUntilTurn_7 rfl rfl ?_
    refine gf_9_3 dX9_daysUntilTurn_8 kw_601 ?_
    refine ev_iload_n (x0) dX9_daysUntilTurn_11 rfl ?_
    refine ev_fV mv_X2_deskOf 1 2 [ev_i x0] [] dX9_daysUntilTurn_12 kw_1057 rfl (by decide) rfl (by decide) (Nat.le_of_ble_eq_true rfl) (sp_X2_deskOf (a + 11) x0) ?_ rfl
    refine ev_fV mv_X1_mayPlay 4 1 [] [] dX9_daysUntilTurn_15 kw_1058 rfl (by decide) rfl (by decide) (Nat.le_of_ble_eq_true rfl) (sp_X1_mayPlay (a_X2_deskOf (a + 11) x0)) ?_ rfl
    by_cases c2 : (t_X1_mayPlay S (a_X2_deskOf (a + 11) x0)) = true
    · rw [if_pos c2]
      replace hQ := hQ.1 c2
      refine ev_if_eq 23 dX9_daysUntilTurn_18 (by decide) (fun h9 => absurd h9 (by decide : ¬ ((1 : Int32) = 0))) (fun _ => ?_)
      refine ev_iconst (0) dX9_daysUntilTurn_21 rfl ?_
      exact ev_ireturn .int dX9_daysUntilTurn_22 rfl rfl hQ
    · rw [if_neg c2]
      replace hQ := hQ.2 c2
      refine ev_if_eq 23 dX9_daysUntilTurn_18 (by decide) (fun _ => ?_) (fun h9 => absurd (by decide : ((0 : Int32) = 0)) h9)
      refine ev_aload_n (ev_o 9 a) dX9_daysUntilTurn_23 rfl rfl ?_
      refine gf_9_4 dX9_daysUntilTurn_24 kw_602 ?_
      refine ev_aload_n (ev_o 9 a) dX9_daysUntilTurn_27 rfl rfl ?_
      refine gf_9_3 dX9_daysUntilTurn_28 kw_601 ?_
      refine ev_cV mv_X2_copyFrom 4 0 2 [ev_o 2 (a + 11)] [] dX9_daysUntilTurn_31 kw_564 rfl (by decide) rfl (by decide) (by decide) (Nat.le_of_ble_eq_true rfl) hQ ?_ rfl
      rintro o S1 ⟨rfl, hQ⟩
      show ev_E g m_X9_daysUntilTurn 6 0 34 [some (ev_o 9 a), some (ev_i x0), none] [] S1 Q
      refine ev_iconst (1) dX9_daysUntilTurn_34 rfl ?_
      refine ev_istore_n dX9_daysUntilTurn_35 (Nat.le_of_ble_eq_true rfl) (ev_hw rfl) ?_
      show ev_E g m_X9_daysUntilTurn 6 0 36 [some (ev_o 9 a), some (ev_i x0), some (ev_i 1)] [] S1 Q
      exact hQ
  · rw [if_neg c1]
    replace hQ := hQ.2 c1
    refine ev_cS ms_X9_require 1 1 [ev_i 0] [] dX9_daysUntilTurn_4 kw_966 rfl (by decide) (by decide) (Nat.le_of_ble_eq_true rfl) (Q' := fun o z => ev_After g m_X9_daysUntilTurn 6 (1 - 1) 4 [some (ev_o 9 a), some (ev_i x0), none] [] z Q o) (sg_X9_require_0 0 ?_) (fun o z h => h) rfl
    refine j_pos (by decide : ((0 : Int32) = 0)) ?_
    exact ev_T_out (by decide) rfl hQ
set_option maxHeartbeats 4000000 in
set_option maxRecDepth 100000 in
theorem sg_X9_daysUntilTurn_36 {g : ev_G} {S : ev_S} {Q : ev_O → ev_S → Prop} (a : Nat) (u1 : Int32) (u2 : Int32) (hQ : (400 < u2 → (
    Q (.inl (some (ev_i (-1)))) S)) ∧
  (¬ (400 < u2) → (
    ((S.1 (a + 71) 16) = (S.1 (a + 71) 13) → (
      Q (.inl (some (ev_i (-1)))) S)) ∧
    (¬ ((S.1 (a + 71) 16) = (S.1 (a + 71) 13)) → (
      ev_Cv g m_X2_passDay 5 0 [ev_o 2 (a + 52)] S (fun o S1 => ∃ v1_ : Int32, o = .inl (some (ev_i v1_)) ∧ (
        ((t_X1_mayPlay S1 (a_X2_deskOf (a + 52) u1)) = true → (
          Q (.inl (some (ev_i u2))) S1)) ∧
        (¬ ((t_X1_mayPlay S1 (a_X2_deskOf (a + 52) u1)) = true) → (
          ev_E g m_X9_daysUntilTurn 6 0 36 [some (ev_o 9 a), some (ev_i u1), some (ev_i (u2 + 1))] [] S1 Q))))))))) : ev_E g m_X9_daysUntilTurn 6 0 36 [some (ev_o 9 a), some (ev_i u1), some (ev_i u2)] [] S Q := by
  refine ev_iload_n (u2) dX9_daysUntilTurn_36 rfl ?_
  refine ev_sipush (400) dX9_daysUntilTurn_37 (by decide) ?_
  refine ev_icmp_gt 86 dX9_daysUntilTurn_40 (by decide) (fun c1 => ?_) (fun c1 => ?_)
  · replace hQ := hQ.1 c1
    refine ev_iconst (-1) dX9_daysUntilTurn_86 rfl ?_
    exact ev_ireturn .int dX9_daysUntilTurn_87 rfl rfl hQ
  · replace hQ := hQ.2 c1
    refine ev_aload_n (ev_o 9 a) dX9_daysUntilTurn_43 rfl rfl ?_
    refine gf_9_4 dX9_daysUntilTurn_44 kw_602 ?_
    refine ev_fV mv_X2_post 1 2 [] [] dX9_daysUntilTurn_47 kw_1121 rfl (by decide) rfl (by decide) (Nat.le_of_ble_eq_true rfl) (sp_X2_post (a + 52)) ?_ rfl
    refine ev_fV mv_X6_isIdle 1 6 [] [] dX9_daysUntilTurn_50 kw_1395 rfl (by decide) rfl (by decide) (Nat.le_of_ble_eq_true rfl) (sp_X6_isIdle (a + 71)) ?_ rfl
    by_cases c2 : (S.1 (a + 71) 16) = (S.1 (a + 71) 13)
    · rw [if_pos c2]
      replace hQ := hQ.1 c2
      refine ev_if_ne 86 dX9_daysUntilTurn_53 (by decide) (fun _ => ?_) (fun h9 => absurd h9 (by decide : ¬ ((1 : Int32) = 0)))
      refine ev_iconst (-1) dX9_daysUntilTurn_86 rfl ?_
      exact ev_ireturn .int dX9_daysUntilTurn_87 rfl rfl hQ
    · rw [if_neg c2]
      replace hQ := hQ.2 c2
      refine ev_if_ne 86 dX9_daysUntilTurn_53 (by decide) (fun h9 => absurd (by decide : ((0 : Int32) = 0)) h9) (fun _ => ?_)
      refine ev_aload_n (ev_o 9 a) dX9_daysUntilTurn_56 rfl rfl ?_
      refine gf_9_4 dX9_daysUntilTurn_57 kw_602 ?_
      refine ev_cV mv_X2_passDay 5 0 2 [] [] dX9_daysUntilTurn_60 kw_1399 rfl (by decide) rfl (by decide) (by decide) (Nat.le_of_ble_eq_true rfl) hQ ?_ rfl
      rintro o S1 ⟨v1_, rfl, hQ⟩
      show ev_E g m_X9_daysUntilTurn 6 0 63 [some (ev_o 9 a), some (ev_i u1), some (ev_i u2)] [ev_i v1_] S1 Q
      refine ev_pop dX9_daysUntilTurn_63 rfl ?_
      refine ev_aload_n (ev_o 9 a) dX9_daysUntilTurn_64 rfl rfl ?_
      refine gf_9_4 dX9_daysUntilTurn_65 kw_602 ?_
      refine ev_iload_n (u1) dX9_daysUntilTurn_68 rfl ?_
      refine ev_fV mv_X2_deskOf 1 2 [ev_i u1] [] dX9_daysUntilTurn_69 kw_1057 rfl (by decide) rfl (by decide) (Nat.le_of_ble_eq_true rfl) (sp_X2_deskOf (a + 52) u1) ?_ rfl
      refine ev_fV mv_X1_mayPlay 4 1 [] [] dX9_daysUntilTurn_72 kw_1058 rfl (by decide) rfl (by decide) (Nat.le_of_ble_eq_true rfl) (sp_X1_mayPlay (a_X2_deskOf (a + 52) u1)) ?_ rfl
      by_cases c3 : (t_X1_mayPlay S1 (a_X2_deskOf (a + 52) u1)) = true
      · rw [if_pos c3]
        replace hQ := hQ.1 c3
        refine ev_if_eq 80 dX9_daysUntilTurn_75 (by decide) (fun h9 => absurd h9 (by decide : ¬ ((1 : Int32) = 0))) (fun _ => ?_)
        refine ev_iload_n (u2) dX9_daysUntilTurn_78 rfl ?_
        exact ev_ireturn .int dX9_daysUntilTurn_79 rfl rfl hQ
      · rw [if_neg c3]
        replace hQ := hQ.2 c3
        refine ev_if_eq 80 dX9_daysUntilTurn_75 (by decide) (fun _ => ?_) (fun h9 => absurd (by decide : ((0 : Int32) = 0)) h9)
        refine ev_iinc u2 (1) dX9_daysUntilTurn_80 rfl (by decide) (ev_hw rfl) ?_
        show ev_E g m_X9_daysUntilTurn 6 0 83 [some (ev_o 9 a), some (ev_i u1), some (ev_i (u2 + 1))] [] S1 Q
        refine ev_goto 36 dX9_daysUntilTurn_83 (by decide) ?_
        exact hQ
set_option maxHeartbeats 4000000 in
set_option maxRecDepth 100000 in
theorem sg_X9_daysUntilEqual_0 {g : ev_G} {S : ev_S} {Q : ev_O → ev_S → Prop} (a : Nat) (hQ : ev_Cv g m_X2_boardsAgree 4 0 [ev_o 2 (a + 11)] S (fun o S1 => ∃ v1_ : Bool, o = .inl (some (ev_i (if v1_ = true then 1 else 0))) ∧ (
    (v1_ = true → (
      Q (.inl (some (ev_i 0))) S1)) ∧
    (¬ (v1_ = true) → (
      ev_Cv g m_X2_copyFrom 4 0 [ev_o 2 (a + 52), ev_o 2 (a + 11)] S1 (fun o S2 => o = .inl none ∧ (
        ev_E g m_X9_daysUntilEqual 6 0 25 [some (ev_o 9 a), some (ev_i 1)] [] S2 Q))))))) : ev_Cv g m_X9_daysUntilEqual 6 0 [ev_o 9 a] S Q := by
  refine ev_enter (by decide) rfl rfl (Nat.le_of_ble_eq_true rfl) ?_
  show ev_E g m_X9_daysUntilEqual 6 0 0 [some (ev_o 9 a), none] [] S Q
  refine ev_aload_n (ev_o 9 a) dX9_daysUntilEqual_0 rfl rfl ?_
  refine gf_9_3 dX9_daysUntilEqual_1 kw_601 ?_
  refine ev_cV mv_X2_boardsAgree 4 0 2 [] [] dX9_daysUntilEqual_4 kw_1270 rfl (by decide) rfl (by decide) (by decide) (Nat.le_of_ble_eq_true rfl) hQ ?_ rfl
  rintro o S1 ⟨v1_, rfl, hQ⟩
  show ev_E g m_X9_daysUntilEqual 6 0 7 [some (ev_o 9 a), none] [ev_i (if v1_ = true then 1 else 0)] S1 Q
  by_cases c1 : v1_ = true
  · rw [if_pos c1]
    replace hQ := hQ.1 c1
    refine ev_if_eq 12 dX9_daysUntilEqual_7 (by decide) (fun h9 => absurd h9 (by decide : ¬ ((1 : Int32) = 0))) (fun _ => ?_)
    refine ev_iconst (0) dX9_daysUntilEqual_10 rfl ?_
    exact ev_ireturn .int dX9_daysUntilEqual_11 rfl rfl hQ
  · rw [if_neg c1]
    replace hQ := hQ.2 c1
    refine ev_if_eq 12 dX9_daysUntilEqual_7 (by decide) (fun _ => ?_) (fun h9 => absurd (by decide : ((0 : Int32) = 0)) h9)
    refine ev_aload_n (ev_o 9 a) dX9_daysUntilEqual_12 rfl rfl ?_
    refine gf_9_4 dX9_daysUntilEqual_13 kw_602 ?_
    refine ev_aload_n (ev_o 9 a) dX9_daysUntilEqual_16 rfl rfl ?_
    refine gf_9_3 dX9_daysUntilEqual_17 kw_601 ?_
    refine ev_cV mv_X2_copyFrom 4 0 2 [ev_o 2 (a + 11)] [] dX9_daysUntilEqual_20 kw_564 rfl (by decide) rfl (by decide) (by decide) (Nat.le_of_ble_eq_true rfl) hQ ?_ rfl
    rintro o S2 ⟨rfl, hQ⟩
    show ev_E g m_X9_daysUntilEqual 6 0 23 [some (ev_o 9 a), none] [] S2 Q
    refine ev_iconst (1) dX9_daysUntilEqual_23 rfl ?_
    refine ev_istore_n dX9_daysUntilEqual_24 (Nat.le_of_ble_eq_true rfl) (ev_hw rfl) ?_
    show ev_E g m_X9_daysUntilEqual 6 0 25 [some (ev_o 9 a), some (ev_i 1)] [] S2 Q
    exact hQ
set_option maxHeartbeats 4000000 in
set_option maxRecDepth 100000 in
theorem sg_X9_daysUntilEqual_25 {g : ev_G} {S : ev_S} {Q : ev_O → ev_S → Prop} (a : Nat) (u1 : Int32) (hQ : (400 < u1 → (
    Q (.inl (some (ev_i (-1)))) S)) ∧
  (¬ (400 < u1) → (
    ((S.1 (a + 71) 16) = (S.1 (a + 71) 13) → (
      Q (.inl (some (ev_i (-1)))) S)) ∧
    (¬ ((S.1 (a + 71) 16) = (S.1 (a + 71) 13)) → (
      ev_Cv g m_X2_passDay 5 0 [ev_o 2 (a + 52)] S (fun o S1 => ∃ v1_ : Int32, o = .inl (some (ev_i v1_)) ∧ (
        ev_Cv g m_X2_boardsAgree 4 0 [ev_o 2 (a + 52)] S1 (fun o S2 => ∃ v2_ : Bool, o = .inl (some (ev_i (if v2_ = true then 1 else 0))) ∧ (
          (v2_ = true → (
            Q (.inl (some (ev_i u1))) S2)) ∧
          (¬ (v2_ = true) → (
            ev_E g m_X9_daysUntilEqual 6 0 25 [some (ev_o 9 a), some (ev_i (u1 + 1))] [] S2 Q))))))))))) : ev_E g m_X9_daysUntilEqual 6 0 25 [some (ev_o 9 a), some (ev_i u1)] [] S Q := by
  refine ev_iload_n (u1) dX9_daysUntilEqual_25 rfl ?_
  refine ev_sipush (400) dX9_daysUntilEqual_26 (by decide) ?_
  refine ev_icmp_gt 71 dX9_daysUntilEqual_29 (by decide) (fun c1 => ?_) (fun c1 => ?_)
  · replace hQ := hQ.1 c1
    refine ev_iconst (-1) dX9_daysUntilEqual_71 rfl ?_
    exact ev_ireturn .int dX9_daysUntilEqual_72 rfl rfl hQ
  · replace hQ := hQ.2 c1
    refine ev_aload_n (ev_o 9 a) dX9_daysUntilEqual_32 rfl rfl ?_
    refine gf_9_4 dX9_daysUntilEqual_33 kw_602 ?_
    refine ev_fV mv_X2_post 1 2 [] [] dX9_daysUntilEqual_36 kw_1121 rfl (by decide) rfl (by decide) (Nat.le_of_ble_eq_true rfl) (sp_X2_post (a + 52)) ?_ rfl
    refine ev_fV mv_X6_isIdle 1 6 [] [] dX9_daysUntilEqual_39 kw_1395 rfl (by decide) rfl (by decide) (Nat.le_of_ble_eq_true rfl) (sp_X6_isIdle (a + 71)) ?_ rfl
    by_cases c2 : (S.1 (a + 71) 16) = (S.1 (a + 71) 13)
    · rw [if_pos c2]
      replace hQ := hQ.1 c2
      refine ev_if_ne 71 dX9_daysUntilEqual_42 (by decide) (fun _ => ?_) (fun h9 => absurd h9 (by decide : ¬ ((1 : Int32) = 0)))
      refine ev_iconst (-1) dX9_daysUntilEqual_71 rfl ?_
      exact ev_ireturn .int dX9_daysUntilEqual_72 rfl rfl hQ
    · rw [if_neg c2]
      replace hQ := hQ.2 c2
      refine ev_if_ne 71 dX9_daysUntilEqual_42 (by decide) (fun h9 => absurd (by decide : ((0 : Int32) = 0)) h9) (fun _ => ?_)
      refine ev_aload_n (ev_o 9 a) dX9_daysUntilEqual_45 rfl rfl ?_
      refine gf_9_4 dX9_daysUntilEqual_46 kw_602 ?_
      refine ev_cV mv_X2_passDay 5 0 2 [] [] dX9_daysUntilEqual_49 kw_1399 rfl (by decide) rfl (by decide) (by decide) (Nat.le_of_ble_eq_true rfl) hQ ?_ rfl
      rintro o S1 ⟨v1_, rfl, hQ⟩
      show ev_E g m_X9_daysUntilEqual 6 0 52 [some (ev_o 9 a), some (ev_i u1)] [ev_i v1_] S1 Q
      refine ev_pop dX9_daysUntilEqual_52 rfl ?_
      refine ev_aload_n (ev_o 9 a) dX9_daysUntilEqual_53 rfl rfl ?_
      refine gf_9_4 dX9_daysUntilEqual_54 kw_602 ?_
      refine ev_cV mv_X2_boardsAgree 4 0 2 [] [] dX9_daysUntilEqual_57 kw_1270 rfl (by decide) rfl (by decide) (by decide) (Nat.le_of_ble_eq_true rfl) hQ ?_ rfl
      rintro o S2 ⟨v2_, rfl, hQ⟩
      show ev_E g m_X9_daysUntilEqual 6 0 60 [some (ev_o 9 a), some (ev_i u1)] [ev_i (if v2_ = true then 1 else 0)] S2 Q
      by_cases c3 : v2_ = true
      · rw [if_pos c3]
        replace hQ := hQ.1 c3
        refine ev_if_eq 65 dX9_daysUntilEqual_60 (by decide) (fun h9 => absurd h9 (by decide : ¬ ((1 : Int32) = 0))) (fun _ => ?_)
        refine ev_iload_n (u1) dX9_daysUntilEqual_63 rfl ?_
        exact ev_ireturn .int dX9_daysUntilEqual_64 rfl rfl hQ
      · rw [if_neg c3]
        replace hQ := hQ.2 c3
        refine ev_if_eq 65 dX9_daysUntilEqual_60 (by decide) (fun _ => ?_) (fun h9 => absurd (by decide : ((0 : Int32) = 0)) h9)
        refine ev_iinc u1 (1) dX9_daysUntilEqual_65 rfl (by decide) (ev_hw rfl) ?_
        show ev_E g m_X9_daysUntilEqual 6 0 68 [some (ev_o 9 a), some (ev_i (u1 + 1))] [] S2 Q
        refine ev_goto 25 dX9_daysUntilEqual_68 (by decide) ?_
        exact hQ
set_option maxHeartbeats 4000000 in
set_option maxRecDepth 100000 in
theorem sg_X6_add_0 {g : ev_G} {S : ev_S} {Q : ev_O → ev_S → Prop} (a : Nat) (x0 : Int32) (x1 : Int32) (x2 : Int32) (x3 : Int32) (x4 : Int32) (x5 : Int32) (hQ : ∀ S1 : ev_S, S1 = (j_put S (a + 5) 84 (S.1 a 13) x0) → (
    ∀ S2 : ev_S, S2 = (j_put S1 (a + 6) 84 (S.1 a 13) x1) → (
      ∀ S3 : ev_S, S3 = (j_put S2 (a + 7) 84 (S.1 a 13) x2) → (
        ∀ S4 : ev_S, S4 = (j_put S3 (a + 8) 84 (S.1 a 13) x3) → (
          ∀ S5 : ev_S, S5 = (j_put S4 (a + 9) 84 (S.1 a 13) x4) → (
            ∀ S6 : ev_S, S6 = (j_put S5 (a + 10) 84 (S.1 a 13) 0) → (
              ∀ S7 : ev_S, S7 = (j_put S6 (a + 12) 84 (S.1 a 13) x5) → (
                ∀ S8 : ev_S, S8 = (j_put S7 (a + 16) 8 ((x4 * 2) + x0) ((j_at (S7.1 (a + 16)) 8 ((x4 * 2) + x0)) + 1)) → (
                  ∀ S9 : ev_S, S9 = (ev_up S8 a 13 ((S8.1 a 13) + 1)) → (
                    Q (.inl (some (ev_i (S.1 a 13)))) S9)))))))))) : ev_Cv g m_X6_add 3 0 [ev_o 6 a, ev_i x0, ev_i x1, ev_i x2, ev_i x3, ev_i x4, ev_i x5] S Q := by
  refine ev_enter (by decide) rfl rfl (Nat.le_of_ble_eq_true rfl) ?_
  show ev_E g m_X6_add 3 0 0 [some (ev_o 6 a), some (ev_i x0), some (ev_i x1), some (ev_i x2), some (ev_i x3), some (ev_i x4), some (ev_i x5), none] [] S Q
  refine ev_aload_n (ev_o 6 a) dX6_add_0 rfl rfl ?_
  refine gf_6_13 dX6_add_1 kw_253 ?_
  refine ev_istore dX6_add_4 (Nat.le_of_ble_eq_true rfl) (ev_hw rfl) ?_
  show ev_E g m_X6_add 3 0 6 [some (ev_o 6 a), some (ev_i x0), some (ev_i x1), some (ev_i x2), some (ev_i x3), some (ev_i x4), some (ev_i x5), some (ev_i (S.1 a 13))] [] S Q
  refine ev_aload_n (ev_o 6 a) dX6_add_6 rfl rfl ?_
  refine gf_6_1 dX6_add_7 kw_241 ?_
  refine ev_iload ((S.1 a 13)) dX6_add_10 rfl ?_
  refine ev_iload_n (x0) dX6_add_12 rfl ?_
  refine ev_fNn ms_X9_put 1 [ev_y 84 (a + 5), ev_i (S.1 a 13), ev_i x0] [] dX6_add_13 (List.mem_of_getElem? (i := 24) rfl) rfl (by decide) (Nat.le_of_ble_eq_true rfl) (sp_X9_put 84 (a + 5) (S.1 a 13) x0) ?_ rfl
  refine ev_sub hQ (fun S1 hS1 hQ => ?_)
  refine ev_E.goal (pc' := 16) (L' := [some (ev_o 6 a), some (ev_i x0), some (ev_i x1), some (ev_i x2), some (ev_i x3), some (ev_i x4), some (ev_i x5), some (ev_i (S.1 a 13))]) (K' := []) (S' := S1) ?_ rfl rfl rfl hS1
  refine ev_aload_n (ev_o 6 a) dX6_add_16 rfl rfl ?_
  refine gf_6_2 dX6_add_17 kw_242 ?_
  refine ev_iload ((S.1 a 13)) dX6_add_20 rfl ?_
  refine ev_iload_n (x1) dX6_add_22 rfl ?_
  refine ev_fNn ms_X9_put 1 [ev_y 84 (a + 6), ev_i (S.1 a 13), ev_i x1] [] dX6_add_23 (List.mem_of_getElem? (i := 24) rfl) rfl (by decide) (Nat.le_of_ble_eq_true rfl) (sp_X9_put 84 (a + 6) (S.1 a 13) x1) ?_ rfl
  refine ev_sub hQ (fun S2 hS2 hQ => ?_)
  refine ev_E.goal (pc' := 26) (L' := [some (ev_o 6 a), some (ev_i x0), some (ev_i x1), some (ev_i x2), some (ev_i x3), some (ev_i x4), some (ev_i x5), some (ev_i (S.1 a 13))]) (K' := []) (S' := S2) ?_ rfl rfl rfl hS2
  refine ev_aload_n (ev_o 6 a) dX6_add_26 rfl rfl ?_
  refine gf_6_3 dX6_add_27 kw_243 ?_
  refine ev_iload ((S.1 a 13)) dX6_add_30 rfl ?_
  refine ev_iload_n (x2) dX6_add_32 rfl ?_
  refine ev_fNn ms_X9_put 1 [ev_y 84 (a + 7), ev_i (S.1 a 13), ev_i x2] [] dX6_add_33 (List.mem_of_getElem? (i := 24) rfl) rfl (by decide) (Nat.le_of_ble_eq_true rfl) (sp_X9_put 84 (a + 7) (S.1 a 13) x2) ?_ rfl
  refine ev_sub hQ (fun S3 hS3 hQ => ?_)
  refine ev_E.goal (pc' := 36) (L' := [some (ev_o 6 a), some (ev_i x0), some (ev_i x1), some (ev_i x2), some (ev_i x3), some (ev_i x4), some (ev_i x5), some (ev_i (S.1 a 13))]) (K' := []) (S' := S3) ?_ rfl rfl rfl hS3
  refine ev_aload_n (ev_o 6 a) dX6_add_36 rfl rfl ?_
  refine gf_6_4 dX6_add_37 kw_244 ?_
  refine ev_iload ((S.1 a 13)) dX6_add_40 rfl ?_
  refine ev_iload (x3) dX6_add_42 rfl ?_
  refine ev_fNn ms_X9_put 1 [ev_y 84 (a + 8), ev_i (S.1 a 13), ev_i x3] [] dX6_add_44 (List.mem_of_getElem? (i := 24) rfl) rfl (by decide) (Nat.le_of_ble_eq_true rfl) (sp_X9_put 84 (a + 8) (S.1 a 13) x3) ?_ rfl
  refine ev_sub hQ (fun S4 hS4 hQ => ?_)
  refine ev_E.goal (pc' := 47) (L' := [some (ev_o 6 a), some (ev_i x0), some (ev_i x1), some (ev_i x2), some (ev_i x3), some (ev_i x4), some (ev_i x5), some (ev_i (S.1 a 13))]) (K' := []) (S' := S4) ?_ rfl rfl rfl hS4
  refine ev_aload_n (ev_o 6 a) dX6_add_47 rfl rfl ?_
  refine gf_6_5 dX6_add_48 kw_245 ?_
  refine ev_iload ((S.1 a 13)) dX6_add_51 rfl ?_
  refine ev_iload (x4) dX6_add_53 rfl ?_
  refine ev_fNn ms_X9_put 1 [ev_y 84 (a + 9), ev_i (S.1 a 13), ev_i x4] [] dX6_add_55 (List.mem_of_getElem? (i := 24) rfl) rfl (by decide) (Nat.le_of_ble_eq_true rfl) (sp_X9_put 84 (a + 9) (S.1 a 13) x4) ?_ rfl
  refine ev_sub hQ (fun S5 hS5 hQ => ?_)
  refine ev_E.goal (pc' := 58) (L' := [some (ev_o 6 a), some (ev_i x0), some (ev_i x1), some (ev_i x2), some (ev_i x3), some (ev_i x4), some (ev_i x5), some (ev_i (S.1 a 13))]) (K' := []) (S' := S5) ?_ rfl rfl rfl hS5
  refine ev_aload_n (ev_o 6 a) dX6_add_58 rfl rfl ?_
  refine gf_6_6 dX6_add_59 kw_246 ?_
  refine ev_iload ((S.1 a 13)) dX6_add_62 rfl ?_
  refine ev_iconst (0) dX6_add_64 rfl ?_
  refine ev_fNn ms_X9_put 1 [ev_y 84 (a + 10), ev_i (S.1 a 13), ev_i 0] [] dX6_add_65 (List.mem_of_getElem? (i := 24) rfl) rfl (by decide) (Nat.le_of_ble_eq_true rfl) (sp_X9_put 84 (a + 10) (S.1 a 13) 0) ?_ rfl
  refine ev_sub hQ (fun S6 hS6 hQ => ?_)
  refine ev_E.goal (pc' := 68) (L' := [some (ev_o 6 a), some (ev_i x0), some (ev_i x1), some (ev_i x2), some (ev_i x3), some (ev_i x4), some (ev_i x5), some (ev_i (S.1 a 13))]) (K' := []) (S' := S6) ?_ rfl rfl rfl hS6
  refine ev_aload_n (ev_o 6 a) dX6_add_68 rfl rfl ?_
  refine gf_6_8 dX6_add_69 kw_248 ?_
  refine ev_iload ((S.1 a 13)) dX6_add_72 rfl ?_
  refine ev_iload (x5) dX6_add_74 rfl ?_
  refine ev_fNn ms_X9_put 1 [ev_y 84 (a + 12), ev_i (S.1 a 13), ev_i x5] [] dX6_add_76 (List.mem_of_getElem? (i := 24) rfl) rfl (by decide) (Nat.le_of_ble_eq_true rfl) (sp_X9_put 84 (a + 12) (S.1 a 13) x5) ?_ rfl
  refine ev_sub hQ (fun S7 hS7 hQ => ?_)
  refine ev_E.goal (pc' := 79) (L' := [some (ev_o 6 a), some (ev_i x0), some (ev_i x1), some (ev_i x2), some (ev_i x3), some (ev_i x4), some (ev_i x5), some (ev_i (S.1 a 13))]) (K' := []) (S' := S7) ?_ rfl rfl rfl hS7
  refine ev_aload_n (ev_o 6 a) dX6_add_79 rfl rfl ?_
  refine ev_iload (x4) dX6_add_80 rfl ?_
  refine ev_iload_n (x0) dX6_add_82 rfl ?_
  refine ev_iconst (1) dX6_add_83 rfl ?_
  refine ev_fVn mv_X6_changeWaiting 2 6 [ev_i x4, ev_i x0, ev_i 1] [] dX6_add_84 kw_1431 rfl (by decide) rfl (by decide) (Nat.le_of_ble_eq_true rfl) (sp_X6_changeWaiting a x4 x0 1) ?_ rfl
  refine ev_sub hQ (fun S8 hS8 hQ => ?_)
  refine ev_E.goal (pc' := 87) (L' := [some (ev_o 6 a), some (ev_i x0), some (ev_i x1), some (ev_i x2), some (ev_i x3), some (ev_i x4), some (ev_i x5), some (ev_i (S.1 a 13))]) (K' := []) (S' := S8) ?_ rfl rfl rfl hS8
  refine ev_aload_n (ev_o 6 a) dX6_add_87 rfl rfl ?_
  refine ev_dup dX6_add_88 rfl ?_
  refine gf_6_13 dX6_add_89 kw_253 ?_
  refine ev_iconst (1) dX6_add_92 rfl ?_
  refine ev_iadd dX6_add_93 ?_
  refine pf_6_13 dX6_add_94 kw_253 ?_
  refine ev_sub hQ (fun S9 hS9 hQ => ?_)
  refine ev_E.goal (pc' := 97) (L' := [some (ev_o 6 a), some (ev_i x0), some (ev_i x1), some (ev_i x2), some (ev_i x3), some (ev_i x4), some (ev_i x5), some (ev_i (S.1 a 13))]) (K' := []) (S' := S9) ?_ rfl rfl rfl hS9
  refine ev_iload ((S.1 a 13)) dX6_add_97 rfl ?_
  exact ev_ireturn .int dX6_add_99 rfl rfl hQ
set_option maxHeartbeats 4000000 in
set_option maxRecDepth 100000 in
theorem sg_X9_fastestPass_0 {g : ev_G} {S : ev_S} {Q : ev_O → ev_S → Prop} (a : Nat) (x0 : Int32) (hQ : ((t_X9_isPlayer x0) = true → (
    ev_Cv g m_X6_copyFrom 3 0 [ev_o 6 (a + 71), ev_o 6 (a + 30)] S (fun o S1 => o = .inl none ∧ (
      ev_E g m_X9_fastestPass 5 0 46 [some (ev_o 9 a), some (ev_i x0), some (ev_o 6 (a + 71)), some (ev_i (S1.1 (a + 71) 13)), some (ev_i (S1.1 (a + 31) 3)), some (ev_i 0), none] [] S1 Q)))) ∧
  (¬ ((t_X9_isPlayer x0) = true) → (
    Q (.inr 0) S))) : ev_Cv g m_X9_fastestPass 5 1 [ev_o 9 a, ev_i x0] S Q := by
  refine ev_enter (by decide) rfl rfl (Nat.le_of_ble_eq_true rfl) ?_
  show ev_E g m_X9_fastestPass 5 1 0 [some (ev_o 9 a), some (ev_i x0), none, none, none, none, none] [] S Q
  refine ev_iload_n (x0) dX9_fastestPass_0 rfl ?_
  refine ev_fS ms_X9_isPlayer 1 [ev_i x0] [] dX9_fastestPass_1 kw_954 rfl (by decide) (Nat.le_of_ble_eq_true rfl) (sp_X9_isPlayer x0) ?_ rfl
  by_cases c1 : (t_X9_isPlayer x0) = true
  · rw [if_pos c1]
    replace hQ := hQ.1 c1
    refine ev_cS ms_X9_require 1 1 [ev_i 1] [] dX9_fastestPass_4 kw_966 rfl (by decide) (by decide) (Nat.le_of_ble_eq_true rfl) (Q' := fun o z => ev_After g m_X9_fastestPass 5 (1 - 1) 4 [some (ev_o 9 a), some (ev_i x0), none, none, none, none, none] [] z Q o) (sg_X9_require_0 1 ?_) (fun o z h => h) rfl
    refine j_neg (by decide : ¬ ((1 : Int32) = 0)) ?_
    show ev_E g m_X9_fastestPass 5 0 7 [some (ev_o 9 a), some (ev_i x0), none, none, none, none, none] [] S Q
    refine ev_aload_n (ev_o 9 a) dX9_fastestPass_7 rfl rfl ?_
    refine gf_9_4 dX9_fastestPass_8 kw_602 ?_
    refine ev_fV mv_X2_post 1 2 [] [] dX9_fastestPass_11 kw_1121 rfl (by decide) rfl (by decide) (Nat.le_of_ble_eq_true rfl) (sp_X2_post (a + 52)) ?_ rfl
    refine ev_astore_n dX9_fastestPass_14 rfl (Nat.le_of_ble_eq_true rfl) (ev_hw rfl) ?_
    show ev_E g m_X9_fastestPass 5 0 15 [some (ev_o 9 a), some (ev_i x0), some (ev_o 6 (a + 71)), none, none, none, none] [] S Q
    refine ev_aload_n (ev_o 6 (a + 71)) dX9_fastestPass_15 rfl rfl ?_
    refine ev_aload_n (ev_o 9 a) dX9_fastestPass_16 rfl rfl ?_
    refine gf_9_3 dX9_fastestPass_17 kw_601 ?_
    refine ev_fV mv_X2_post 1 2 [] [ev_o 6 (a + 71)] dX9_fastestPass_20 kw_1121 rfl (by decide) rfl (by decide) (Nat.le_of_ble_eq_true rfl) (sp_X2_post (a + 11)) ?_ rfl
    refine ev_cV mv_X6_copyFrom 3 0 6 [ev_o 6 (a + 30)] [] dX9_fastestPass_23 kw_1487 rfl (by decide) rfl (by decide) (by decide) (Nat.le_of_ble_eq_true rfl) hQ ?_ rfl
    rintro o S1 ⟨rfl, hQ⟩
    show ev_E g m_X9_fastestPass 5 0 26 [some (ev_o 9 a), some (ev_i x0), some (ev_o 6 (a + 71)), none, none, none, none] [] S1 Q
    refine ev_aload_n (ev_o 6 (a + 71)) dX9_fastestPass_26 rfl rfl ?_
    refine ev_fV mv_X6_count 1 6 [] [] dX9_fastestPass_27 kw_1265 rfl (by decide) rfl (by decide) (Nat.le_of_ble_eq_true rfl) (sp_X6_count (a + 71)) ?_ rfl
    refine ev_istore_n dX9_fastestPass_30 (Nat.le_of_ble_eq_true rfl) (ev_hw rfl) ?_
    show ev_E g m_X9_fastestPass 5 0 31 [some (ev_o 9 a), some (ev_i x0), some (ev_o 6 (a + 71)), some (ev_i (S1.1 (a + 71) 13)), none, none, none] [] S1 Q
    refine ev_aload_n (ev_o 9 a) dX9_fastestPass_31 rfl rfl ?_
    refine gf_9_3 dX9_fastestPass_32 kw_601 ?_
    refine ev_fV mv_X2_passes 2 2 [] [] dX9_fastestPass_35 kw_527 rfl (by decide) rfl (by decide) (Nat.le_of_ble_eq_true rfl) (sp_X2_passes (a + 11)) ?_ rfl
    refine ev_fV mv_X5_count 1 5 [] [] dX9_fastestPass_38 kw_541 rfl (by decide) rfl (by decide) (Nat.le_of_ble_eq_true rfl) (sp_X5_count (a + 31)) ?_ rfl
    refine ev_istore dX9_fastestPass_41 (Nat.le_of_ble_eq_true rfl) (ev_hw rfl) ?_
    show ev_E g m_X9_fastestPass 5 0 43 [some (ev_o 9 a), some (ev_i x0), some (ev_o 6 (a + 71)), some (ev_i (S1.1 (a + 71) 13)), some (ev_i (S1.1 (a + 31) 3)), none, none] [] S1 Q
    refine ev_iconst (0) dX9_fastestPass_43 rfl ?_
    refine ev_istore dX9_fastestPass_44 (Nat.le_of_ble_eq_true rfl) (ev_hw rfl) ?_
    show ev_E g m_X9_fastestPass 5 0 46 [some (ev_o 9 a), some (ev_i x0), some (ev_o 6 (a + 71)), some (ev_i (S1.1 (a + 71) 13)), some (ev_i (S1.1 (a + 31) 3)), some (ev_i 0), none] [] S1 Q
    exact hQ
  · rw [if_neg c1]
    replace hQ := hQ.2 c1
    refine ev_cS ms_X9_require 1 1 [ev_i 0] [] dX9_fastestPass_4 kw_966 rfl (by decide) (by decide) (Nat.le_of_ble_eq_true rfl) (Q' := fun o z => ev_After g m_X9_fastestPass 5 (1 - 1) 4 [some (ev_o 9 a), some (ev_i x0), none, none, none, none, none] [] z Q o) (sg_X9_require_0 0 ?_) (fun o z h => h) rfl
    refine j_pos (by decide : ((0 : Int32) = 0)) ?_
    exact ev_T_out (by decide) rfl hQ
set_option maxHeartbeats 4000000 in
set_option maxRecDepth 100000 in
theorem sg_X9_fastestPass_46 {g : ev_G} {S : ev_S} {Q : ev_O → ev_S → Prop} (a : Nat) (u1 : Int32) (u3 : Int32) (u4 : Int32) (u5 : Int32) (hQ : (u4 ≤ u5 → (
    ev_E g m_X9_fastestPass 5 0 80 [some (ev_o 9 a), none, some (ev_o 6 (a + 71)), some (ev_i u3), some (ev_i u4), some (ev_i 1), none] [] S Q)) ∧
  (¬ (u4 ≤ u5) → (
    ev_Cv g m_X6_add 3 0 [ev_o 6 (a + 71), ev_i u1, ev_i 0, ev_i (-1), ev_i (-1), ev_i u5, ev_i (S.1 (a + 11) 4)] S (fun o S1 => ∃ v1_ : Int32, o = .inl (some (ev_i v1_)) ∧ (
      ev_E g m_X9_fastestPass 5 0 46 [some (ev_o 9 a), some (ev_i u1), some (ev_o 6 (a + 71)), some (ev_i u3), some (ev_i u4), some (ev_i (u5 + 1)), none] [] S1 Q))))) : ev_E g m_X9_fastestPass 5 0 46 [some (ev_o 9 a), some (ev_i u1), some (ev_o 6 (a + 71)), some (ev_i u3), some (ev_i u4), some (ev_i u5), none] [] S Q := by
  refine ev_iload (u5) dX9_fastestPass_46 rfl ?_
  refine ev_iload (u4) dX9_fastestPass_48 rfl ?_
  refine ev_icmp_ge 77 dX9_fastestPass_50 (by decide) (fun c1 => ?_) (fun c1 => ?_)
  · replace hQ := hQ.1 c1
    refine ev_iconst (1) dX9_fastestPass_77 rfl ?_
    refine ev_istore dX9_fastestPass_78 (Nat.le_of_ble_eq_true rfl) (ev_hw rfl) ?_
    show ev_E g m_X9_fastestPass 5 0 80 [some (ev_o 9 a), some (ev_i u1), some (ev_o 6 (a + 71)), some (ev_i u3), some (ev_i u4), some (ev_i 1), none] [] S Q
    refine ev_fgm [true, false, true, true, true, true, false] ?_
    exact hQ
  · replace hQ := hQ.2 c1
    refine ev_aload_n (ev_o 6 (a + 71)) dX9_fastestPass_53 rfl rfl ?_
    refine ev_iload_n (u1) dX9_fastestPass_54 rfl ?_
    refine ev_iconst (0) dX9_fastestPass_55 rfl ?_
    refine ev_iconst (-1) dX9_fastestPass_56 rfl ?_
    refine ev_iconst (-1) dX9_fastestPass_57 rfl ?_
    refine ev_iload (u5) dX9_fastestPass_58 rfl ?_
    refine ev_aload_n (ev_o 9 a) dX9_fastestPass_60 rfl rfl ?_
    refine gf_9_3 dX9_fastestPass_61 kw_601 ?_
    refine ev_fV mv_X2_today 1 2 [] [ev_i u5, ev_i (-1), ev_i (-1), ev_i 0, ev_i u1, ev_o 6 (a + 71)] dX9_fastestPass_64 kw_1170 rfl (by decide) rfl (by decide) (Nat.le_of_ble_eq_true rfl) (sp_X2_today (a + 11)) ?_ rfl
    refine ev_cV mv_X6_add 3 0 6 [ev_i u1, ev_i 0, ev_i (-1), ev_i (-1), ev_i u5, ev_i (S.1 (a + 11) 4)] [] dX9_fastestPass_67 kw_1499 rfl (by decide) rfl (by decide) (by decide) (Nat.le_of_ble_eq_true rfl) hQ ?_ rfl
    rintro o S1 ⟨v1_, rfl, hQ⟩
    show ev_E g m_X9_fastestPass 5 0 70 [some (ev_o 9 a), some (ev_i u1), some (ev_o 6 (a + 71)), some (ev_i u3), some (ev_i u4), some (ev_i u5), none] [ev_i v1_] S1 Q
    refine ev_pop dX9_fastestPass_70 rfl ?_
    refine ev_iinc u5 (1) dX9_fastestPass_71 rfl (by decide) (ev_hw rfl) ?_
    show ev_E g m_X9_fastestPass 5 0 74 [some (ev_o 9 a), some (ev_i u1), some (ev_o 6 (a + 71)), some (ev_i u3), some (ev_i u4), some (ev_i (u5 + 1)), none] [] S1 Q
    refine ev_goto 46 dX9_fastestPass_74 (by decide) ?_
    exact hQ
set_option maxHeartbeats 4000000 in
set_option maxRecDepth 100000 in
theorem sg_X9_fastestPass_80 {g : ev_G} {S : ev_S} {Q : ev_O → ev_S → Prop} (a : Nat) (u3 : Int32) (u4 : Int32) (u5 : Int32) (hQ : (400 < u5 → (
    Q (.inl (some (ev_i (-1)))) S)) ∧
  (¬ (400 < u5) → (
    ev_Cv g m_X6_passDay 4 0 [ev_o 6 (a + 71), ev_i ((S.1 (a + 11) 4) + u5)] S (fun o S1 => ∃ v1_ : Int32, o = .inl (some (ev_i v1_)) ∧ (
      ev_E g m_X9_fastestPass 5 0 106 [some (ev_o 9 a), none, some (ev_o 6 (a + 71)), some (ev_i u3), some (ev_i u4), some (ev_i u5), some (ev_i 0)] [] S1 Q))))) : ev_E g m_X9_fastestPass 5 0 80 [some (ev_o 9 a), none, some (ev_o 6 (a + 71)), some (ev_i u3), some (ev_i u4), some (ev_i u5), none] [] S Q := by
  refine ev_iload (u5) dX9_fastestPass_80 rfl ?_
  refine ev_sipush (400) dX9_fastestPass_82 (by decide) ?_
  refine ev_icmp_gt 140 dX9_fastestPass_85 (by decide) (fun c1 => ?_) (fun c1 => ?_)
  · replace hQ := hQ.1 c1
    refine ev_iconst (-1) dX9_fastestPass_140 rfl ?_
    exact ev_ireturn .int dX9_fastestPass_141 rfl rfl hQ
  · replace hQ := hQ.2 c1
    refine ev_aload_n (ev_o 6 (a + 71)) dX9_fastestPass_88 rfl rfl ?_
    refine ev_aload_n (ev_o 9 a) dX9_fastestPass_89 rfl rfl ?_
    refine gf_9_3 dX9_fastestPass_90 kw_601 ?_
    refine ev_fV mv_X2_today 1 2 [] [ev_o 6 (a + 71)] dX9_fastestPass_93 kw_1170 rfl (by decide) rfl (by decide) (Nat.le_of_ble_eq_true rfl) (sp_X2_today (a + 11)) ?_ rfl
    refine ev_iload (u5) dX9_fastestPass_96 rfl ?_
    refine ev_iadd dX9_fastestPass_98 ?_
    refine ev_cV mv_X6_passDay 4 0 6 [ev_i ((S.1 (a + 11) 4) + u5)] [] dX9_fastestPass_99 kw_1488 rfl (by decide) rfl (by decide) (by decide) (Nat.le_of_ble_eq_true rfl) hQ ?_ rfl
    rintro o S1 ⟨v1_, rfl, hQ⟩
    show ev_E g m_X9_fastestPass 5 0 102 [some (ev_o 9 a), none, some (ev_o 6 (a + 71)), some (ev_i u3), some (ev_i u4), some (ev_i u5), none] [ev_i v1_] S1 Q
    refine ev_pop dX9_fastestPass_102 rfl ?_
    refine ev_iconst (0) dX9_fastestPass_103 rfl ?_
    refine ev_istore dX9_fastestPass_104 (Nat.le_of_ble_eq_true rfl) (ev_hw rfl) ?_
    show ev_E g m_X9_fastestPass 5 0 106 [some (ev_o 9 a), none, some (ev_o 6 (a + 71)), some (ev_i u3), some (ev_i u4), some (ev_i u5), some (ev_i 0)] [] S1 Q
    exact hQ
set_option maxHeartbeats 4000000 in
set_option maxRecDepth 100000 in
theorem sg_X9_fastestPass_106 {g : ev_G} {S : ev_S} {Q : ev_O → ev_S → Prop} (a : Nat) (u3 : Int32) (u4 : Int32) (u5 : Int32) (u6 : Int32) (hQ : (u4 ≤ u6 → (
    ev_E g m_X9_fastestPass 5 0 80 [some (ev_o 9 a), none, some (ev_o 6 (a + 71)), some (ev_i u3), some (ev_i u4), some (ev_i (u5 + 1)), none] [] S Q)) ∧
  (¬ (u4 ≤ u6) → (
    ((j_at (S.1 (a + 81)) 84 (u3 + u6)) = 2 → (
      Q (.inl (some (ev_i u6))) S)) ∧
    (¬ ((j_at (S.1 (a + 81)) 84 (u3 + u6)) = 2) → (
      ev_E g m_X9_fastestPass 5 0 106 [some (ev_o 9 a), none, some (ev_o 6 (a + 71)), some (ev_i u3), some (ev_i u4), some (ev_i u5), some (ev_i (u6 + 1))] [] S Q))))) : ev_E g m_X9_fastestPass 5 0 106 [some (ev_o 9 a), none, some (ev_o 6 (a + 71)), some (ev_i u3), some (ev_i u4), some (ev_i u5), some (ev_i u6)] [] S Q := by
  refine ev_iload (u6) dX9_fastestPass_106 rfl ?_
  refine ev_iload (u4) dX9_fastestPass_108 rfl ?_
  refine ev_icmp_ge 134 dX9_fastestPass_110 (by decide) (fun c1 => ?_) (fun c1 => ?_)
  · replace hQ := hQ.1 c1
    refine ev_iinc u5 (1) dX9_fastestPass_134 rfl (by decide) (ev_hw rfl) ?_
    show ev_E g m_X9_fastestPass 5 0 137 [some (ev_o 9 a), none, some (ev_o 6 (a + 71)), some (ev_i u3), some (ev_i u4), some (ev_i (u5 + 1)), some (ev_i u6)] [] S Q
    refine ev_goto 80 dX9_fastestPass_137 (by decide) ?_
    refine ev_fgm [true, false, true, true, true, true, false] ?_
    exact hQ
  · replace hQ := hQ.2 c1
    refine ev_aload_n (ev_o 6 (a + 71)) dX9_fastestPass_113 rfl rfl ?_
    refine ev_iload_n (u3) dX9_fastestPass_114 rfl ?_
    refine ev_iload (u6) dX9_fastestPass_115 rfl ?_
    refine ev_iadd dX9_fastestPass_117 ?_
    refine ev_fV mv_X6_stateOf 2 6 [ev_i (u3 + u6)] [] dX9_fastestPass_118 kw_1125 rfl (by decide) rfl (by decide) (Nat.le_of_ble_eq_true rfl) (sp_X6_stateOf (a + 71) (u3 + u6)) ?_ rfl
    refine ev_iconst (2) dX9_fastestPass_121 rfl ?_
    refine ev_icmp_ne 128 dX9_fastestPass_122 (by decide) (fun c2 => ?_) (fun c2 => ?_)
    · replace hQ := hQ.2 c2
      refine ev_iinc u6 (1) dX9_fastestPass_128 rfl (by decide) (ev_hw rfl) ?_
      show ev_E g m_X9_fastestPass 5 0 131 [some (ev_o 9 a), none, some (ev_o 6 (a + 71)), some (ev_i u3), some (ev_i u4), some (ev_i u5), some (ev_i (u6 + 1))] [] S Q
      refine ev_goto 106 dX9_fastestPass_131 (by decide) ?_
      exact hQ
    · replace hQ := hQ.1 c2
      refine ev_iload (u6) dX9_fastestPass_125 rfl ?_
      exact ev_ireturn .int dX9_fastestPass_127 rfl rfl hQ
set_option maxHeartbeats 4000000 in
set_option maxRecDepth 100000 in
theorem sg_X6_isFull_0 {g : ev_G} {S : ev_S} {Q : ev_O → ev_S → Prop} (a : Nat) (hQ : ((S.1 a 13) < 80 → (
    Q (.inl (some (ev_i 0))) S)) ∧
  (¬ ((S.1 a 13) < 80) → (
    Q (.inl (some (ev_i 1))) S))) : ev_Cv g m_X6_isFull 1 0 [ev_o 6 a] S Q := by
  refine ev_enter (by decide) rfl rfl (Nat.le_of_ble_eq_true rfl) ?_
  show ev_E g m_X6_isFull 1 0 0 [some (ev_o 6 a)] [] S Q
  refine ev_aload_n (ev_o 6 a) dX6_isFull_0 rfl rfl ?_
  refine gf_6_13 dX6_isFull_1 kw_253 ?_
  refine ev_bipush (80) dX6_isFull_4 (by decide) ?_
  refine ev_icmp_lt 13 dX6_isFull_6 (by decide) (fun c1 => ?_) (fun c1 => ?_)
  · replace hQ := hQ.1 c1
    refine ev_iconst (0) dX6_isFull_13 rfl ?_
    exact ev_ireturn .boolean dX6_isFull_14 rfl rfl hQ
  · replace hQ := hQ.2 c1
    refine ev_iconst (1) dX6_isFull_9 rfl ?_
    refine ev_goto 14 dX6_isFull_10 (by decide) ?_
    exact ev_ireturn .boolean dX6_isFull_14 rfl rfl hQ
set_option maxHeartbeats 4000000 in
set_option maxRecDepth 100000 in
theorem sp_X6_isFull {g : ev_G} {S : ev_S} (a : Nat)  : ev_Fn g m_X6_isFull 1 [ev_o 6 a] S (some (ev_i (if (S.1 a 13) < 80 then 0 else 1))) S := by
  intro Q hQ
  refine sg_X6_isFull_0 a ?_
  refine ⟨fun c1 => ?_, fun c1 => ?_⟩
  · rw [if_pos c1] at hQ
    exact hQ
  · rw [if_neg c1] at hQ
    exact hQ
set_option maxHeartbeats 4000000 in
set_option maxRecDepth 100000 in
theorem sg_X2_moveFault_0 {g : ev_G} {S : ev_S} {Q : ev_O → ev_S → Prop} (a : Nat) (x0 : Int32) (x1 : Int32) (x2 : Int32) (x3 : Int32) (hQ : ((t_X9_isPlayer x0) = true → (
    ((t_X2_isSquare S a x1) = true → (
      ((t_X2_isSquare S a x2) = true → (
        ((t_X5_exists S (a + 20) x3) = true → (
          ((t_X1_mayPlay S (a_X2_deskOf a x0)) = true → (
            ((S.1 (a + 19) 13) < 80 → (
              ((j_at (S.1 ((a_X2_deskOf a x0) + 2)) 64 x1) = x0 → (
                ev_Cv g m_X0_canReach 3 0 [ev_o 0 ((a_X2_deskOf a x0) + 1), ev_i x1, ev_i x2] S (fun o S1 => ∃ v1_ : Bool, o = .inl (some (ev_i (if v1_ = true then 1 else 0))) ∧ (
                  (v1_ = true → (
                    Q (.inl (some (ev_i 0))) S1)) ∧
                  (¬ (v1_ = true) → (
                    Q (.inl (some (ev_i 3))) S1)))))) ∧
              (¬ ((j_at (S.1 ((a_X2_deskOf a x0) + 2)) 64 x1) = x0) → (
                Q (.inl (some (ev_i 3))) S)))) ∧
            (¬ ((S.1 (a + 19) 13) < 80) → (
              Q (.inl (some (ev_i 2))) S)))) ∧
          (¬ ((t_X1_mayPlay S (a_X2_deskOf a x0)) = true) → (
            Q (.inl (some (ev_i 2))) S)))) ∧
        (¬ ((t_X5_exists S (a + 20) x3) = true) → (
          Q (.inl (some (ev_i 1))) S)))) ∧
      (¬ ((t_X2_isSquare S a x2) = true) → (
        Q (.inl (some (ev_i 1))) S)))) ∧
    (¬ ((t_X2_isSquare S a x1) = true) → (
      Q (.inl (some (ev_i 1))) S)))) ∧
  (¬ ((t_X9_isPlayer x0) = true) → (
    Q (.inl (some (ev_i 1))) S))) : ev_Cv g m_X2_moveFault 5 0 [ev_o 2 a, ev_i x0, ev_i x1, ev_i x2, ev_i x3] S Q := by
  refine ev_enter (by decide) rfl rfl (Nat.le_of_ble_eq_true rfl) ?_
  show ev_E g m_X2_moveFault 5 0 0 [some (ev_o 2 a), some (ev_i x0), some (ev_i x1), some (ev_i x2), some (ev_i x3), none] [] S Q
  refine ev_iload_n (x0) dX2_moveFault_0 rfl ?_
  refine ev_fN ms_X9_isPlayer 1 [ev_i x0] [] dX2_moveFault_1 (List.mem_of_getElem? (i := 29) rfl) rfl (by decide) (Nat.le_of_ble_eq_true rfl) (sp_X9_isPlayer x0) ?_ rfl
  by_cases c1 : (t_X9_isPlayer x0) = true
  · rw [if_pos c1]
    replace hQ := hQ.1 c1
    refine ev_if_eq 35 dX2_moveFault_4 (by decide) (fun h9 => absurd h9 (by decide : ¬ ((1 : Int32) = 0))) (fun _ => ?_)
    refine ev_aload_n (ev_o 2 a) dX2_moveFault_7 rfl rfl ?_
    refine ev_iload_n (x1) dX2_moveFault_8 rfl ?_
    refine ev_fV mv_X2_isSquare 3 2 [ev_i x1] [] dX2_moveFault_9 kw_1537 rfl (by decide) rfl (by decide) (Nat.le_of_ble_eq_true rfl) (sp_X2_isSquare a x1) ?_ rfl
    by_cases c2 : (t_X2_isSquare S a x1) = true
    · rw [if_pos c2]
      replace hQ := hQ.1 c2
      refine ev_if_eq 35 dX2_moveFault_12 (by decide) (fun h9 => absurd h9 (by decide : ¬ ((1 : Int32) = 0))) (fun _ => ?_)
      refine ev_aload_n (ev_o 2 a) dX2_moveFault_15 rfl rfl ?_
      refine ev_iload_n (x2) dX2_moveFault_16 rfl ?_
      refine ev_fV mv_X2_isSquare 3 2 [ev_i x2] [] dX2_moveFault_17 kw_1537 rfl (by decide) rfl (by decide) (Nat.le_of_ble_eq_true rfl) (sp_X2_isSquare a x2) ?_ rfl
      by_cases c3 : (t_X2_isSquare S a x2) = true
      · rw [if_pos c3]
        replace hQ := hQ.1 c3
        refine ev_if_eq 35 dX2_moveFault_20 (by decide) (fun h9 => absurd h9 (by decide : ¬ ((1 : Int32) = 0))) (fun _ => ?_)
        refine ev_aload_n (ev_o 2 a) dX2_moveFault_23 rfl rfl ?_
        refine ev_fV mv_X2_passes 2 2 [] [] dX2_moveFault_24 kw_1312 rfl (by decide) rfl (by decide) (Nat.le_of_ble_eq_true rfl) (sp_X2_passes a) ?_ rfl
        refine ev_iload (x3) dX2_moveFault_27 rfl ?_
        refine ev_fV mv_X5_exists 1 5 [ev_i x3] [] dX2_moveFault_29 kw_1538 rfl (by decide) rfl (by decide) (Nat.le_of_ble_eq_true rfl) (sp_X5_exists (a + 20) x3) ?_ rfl
        by_cases c4 : (t_X5_exists S (a + 20) x3) = true
        · rw [if_pos c4]
          replace hQ := hQ.1 c4
          refine ev_if_ne 37 dX2_moveFault_32 (by decide) (fun _ => ?_) (fun h9 => absurd h9 (by decide : ¬ ((1 : Int32) = 0)))
          refine ev_aload_n (ev_o 2 a) dX2_moveFault_37 rfl rfl ?_
          refine ev_iload_n (x0) dX2_moveFault_38 rfl ?_
          refine ev_fV mv_X2_deskOf 1 2 [ev_i x0] [] dX2_moveFault_39 kw_492 rfl (by decide) rfl (by decide) (Nat.le_of_ble_eq_true rfl) (sp_X2_deskOf a x0) ?_ rfl
          refine ev_fV mv_X1_mayPlay 4 1 [] [] dX2_moveFault_42 kw_1539 rfl (by decide) rfl (by decide) (Nat.le_of_ble_eq_true rfl) (sp_X1_mayPlay (a_X2_deskOf a x0)) ?_ rfl
          by_cases c5 : (t_X1_mayPlay S (a_X2_deskOf a x0)) = true
          · rw [if_pos c5]
            replace hQ := hQ.1 c5
            refine ev_if_eq 58 dX2_moveFault_45 (by decide) (fun h9 => absurd h9 (by decide : ¬ ((1 : Int32) = 0))) (fun _ => ?_)
            refine ev_aload_n (ev_o 2 a) dX2_moveFault_48 rfl rfl ?_
            refine gf_2_2 dX2_moveFault_49 kw_299 ?_
            refine ev_fV mv_X6_isFull 1 6 [] [] dX2_moveFault_52 kw_1540 rfl (by decide) rfl (by decide) (Nat.le_of_ble_eq_true rfl) (sp_X6_isFull (a + 19)) ?_ rfl
            by_cases c6 : (S.1 (a + 19) 13) < 80
            · rw [if_pos c6]
              replace hQ := hQ.1 c6
              refine ev_if_eq 60 dX2_moveFault_55 (by decide) (fun _ => ?_) (fun h9 => absurd (by decide : ((0 : Int32) = 0)) h9)
              refine ev_aload_n (ev_o 2 a) dX2_moveFault_60 rfl rfl ?_
              refine ev_iload_n (x0) dX2_moveFault_61 rfl ?_
              refine ev_fV mv_X2_boardOf 2 2 [ev_i x0] [] dX2_moveFault_62 kw_961 rfl (by decide) rfl (by decide) (Nat.le_of_ble_eq_true rfl) (sp_X2_boardOf a x0) ?_ rfl
              refine ev_astore dX2_moveFault_65 rfl (Nat.le_of_ble_eq_true rfl) (ev_hw rfl) ?_
              show ev_E g m_X2_moveFault 5 0 67 [some (ev_o 2 a), some (ev_i x0), some (ev_i x1), some (ev_i x2), some (ev_i x3), some (ev_o 0 ((a_X2_deskOf a x0) + 1))] [] S Q
              refine ev_aload (ev_o 0 ((a_X2_deskOf a x0) + 1)) dX2_moveFault_67 rfl rfl ?_
              refine ev_iload_n (x1) dX2_moveFault_69 rfl ?_
              refine ev_fV mv_X0_ownerOn 2 0 [ev_i x1] [] dX2_moveFault_70 kw_1544 rfl (by decide) rfl (by decide) (Nat.le_of_ble_eq_true rfl) (sp_X0_ownerOn ((a_X2_deskOf a x0) + 1) x1) ?_ rfl
              refine ev_iload_n (x0) dX2_moveFault_73 rfl ?_
              refine ev_icmp_ne 91 dX2_moveFault_74 (by decide) (fun c7 => ?_) (fun c7 => ?_)
              · replace hQ := hQ.2 c7
                refine ev_iconst (3) dX2_moveFault_91 rfl ?_
                exact ev_ireturn .int dX2_moveFault_92 rfl rfl hQ
              · replace hQ := hQ.1 c7
                refine ev_aload (ev_o 0 ((a_X2_deskOf a x0) + 1)) dX2_moveFault_77 rfl rfl ?_
                refine ev_iload_n (x1) dX2_moveFault_79 rfl ?_
                refine ev_iload_n (x2) dX2_moveFault_80 rfl ?_
                refine ev_cV mv_X0_canReach 3 0 0 [ev_i x1, ev_i x2] [] dX2_moveFault_81 kw_1545 rfl (by decide) rfl (by decide) (by decide) (Nat.le_of_ble_eq_true rfl) hQ ?_ rfl
                rintro o S1 ⟨v1_, rfl, hQ⟩
                show ev_E g m_X2_moveFault 5 0 84 [some (ev_o 2 a), some (ev_i x0), some (ev_i x1), some (ev_i x2), some (ev_i x3), some (ev_o 0 ((a_X2_deskOf a x0) + 1))] [ev_i (if v1_ = true then 1 else 0)] S1 Q
                by_cases c8 : v1_ = true
                · rw [if_pos c8]
                  replace hQ := hQ.1 c8
                  refine ev_if_eq 91 dX2_moveFault_84 (by decide) (fun h9 => absurd h9 (by decide : ¬ ((1 : Int32) = 0))) (fun _ => ?_)
                  refine ev_iconst (0) dX2_moveFault_87 rfl ?_
                  refine ev_goto 92 dX2_moveFault_88 (by decide) ?_
                  exact ev_ireturn .int dX2_moveFault_92 rfl rfl hQ
                · rw [if_neg c8]
                  replace hQ := hQ.2 c8
                  refine ev_if_eq 91 dX2_moveFault_84 (by decide) (fun _ => ?_) (fun h9 => absurd (by decide : ((0 : Int32) = 0)) h9)
                  refine ev_iconst (3) dX2_moveFault_91 rfl ?_
                  exact ev_ireturn .int dX2_moveFault_92 rfl rfl hQ
            · rw [if_neg c6]
              replace hQ := hQ.2 c6
              refine ev_if_eq 60 dX2_moveFault_55 (by decide) (fun h9 => absurd h9 (by decide : ¬ ((1 : Int32) = 0))) (fun _ => ?_)
              refine ev_iconst (2) dX2_moveFault_58 rfl ?_
              exact ev_ireturn .int dX2_moveFault_59 rfl rfl hQ
          · rw [if_neg c5]
            replace hQ := hQ.2 c5
            refine ev_if_eq 58 dX2_moveFault_45 (by decide) (fun _ => ?_) (fun h9 => absurd (by decide : ((0 : Int32) = 0)) h9)
            refine ev_iconst (2) dX2_moveFault_58 rfl ?_
            exact ev_ireturn .int dX2_moveFault_59 rfl rfl hQ
        · rw [if_neg c4]
          replace hQ := hQ.2 c4
          refine ev_if_ne 37 dX2_moveFault_32 (by decide) (fun h9 => absurd (by decide : ((0 : Int32) = 0)) h9) (fun _ => ?_)
          refine ev_iconst (1) dX2_moveFault_35 rfl ?_
          exact ev_ireturn .int dX2_moveFault_36 rfl rfl hQ
      · rw [if_neg c3]
        replace hQ := hQ.2 c3
        refine ev_if_eq 35 dX2_moveFault_20 (by decide) (fun _ => ?_) (fun h9 => absurd (by decide : ((0 : Int32) = 0)) h9)
        refine ev_iconst (1) dX2_moveFault_35 rfl ?_
        exact ev_ireturn .int dX2_moveFault_36 rfl rfl hQ
    · rw [if_neg c2]
      replace hQ := hQ.2 c2
      refine ev_if_eq 35 dX2_moveFault_12 (by decide) (fun _ => ?_) (fun h9 => absurd (by decide : ((0 : Int32) = 0)) h9)
      refine ev_iconst (1) dX2_moveFault_35 rfl ?_
      exact ev_ireturn .int dX2_moveFault_36 rfl rfl hQ
  · rw [if_neg c1]
    replace hQ := hQ.2 c1
    refine ev_if_eq 35 dX2_moveFault_4 (by decide) (fun _ => ?_) (fun h9 => absurd (by decide : ((0 : Int32) = 0)) h9)
    refine ev_iconst (1) dX2_moveFault_35 rfl ?_
    exact ev_ireturn .int dX2_moveFault_36 rfl rfl hQ
set_option maxHeartbeats 4000000 in
set_option maxRecDepth 100000 in
theorem sg_X9_refuse_0 {g : ev_G} {S : ev_S} {Q : ev_O → ev_S → Prop} (x0 : Int32) (hQ : (x0 = 1 → (
    Q (.inr 0) S)) ∧
  (¬ (x0 = 1) → (
    (x0 = 2 → (
      Q (.inr 1) S)) ∧
    (¬ (x0 = 2) → (
      (x0 = 3 → (
        Q (.inr 2) S)) ∧
      (¬ (x0 = 3) → (
        Q (.inl none) S))))))) : ev_Cv g m_X9_refuse 1 1 [ev_i x0] S Q := by
  refine ev_enter (by decide) rfl rfl (Nat.le_of_ble_eq_true rfl) ?_
  show ev_E g m_X9_refuse 1 1 0 [some (ev_i x0)] [] S Q
  refine ev_iload_n (x0) dX9_refuse_0 rfl ?_
  refine ev_iconst (1) dX9_refuse_1 rfl ?_
  refine ev_icmp_ne 16 dX9_refuse_2 (by decide) (fun c1 => ?_) (fun c1 => ?_)
  · replace hQ := hQ.2 c1
    refine ev_iload_n (x0) dX9_refuse_16 rfl ?_
    refine ev_iconst (2) dX9_refuse_17 rfl ?_
    refine ev_icmp_ne 32 dX9_refuse_18 (by decide) (fun c2 => ?_) (fun c2 => ?_)
    · replace hQ := hQ.2 c2
      refine ev_iload_n (x0) dX9_refuse_32 rfl ?_
      refine ev_iconst (3) dX9_refuse_33 rfl ?_
      refine ev_icmp_ne 48 dX9_refuse_34 (by decide) (fun c3 => ?_) (fun c3 => ?_)
      · replace hQ := hQ.2 c3
        exact ev_return dX9_refuse_48 rfl hQ
      · replace hQ := hQ.1 c3
        exact ev_throwW 2 98 384 102 9 "this is not allowed" (by decide) (by decide) rfl (by decide) kw_1550 kw_48 (List.mem_of_getElem? (i := 9) rfl) at_X9_102 dX9_refuse_37 dX9_refuse_40 dX9_refuse_41 dX9_refuse_44 dX9_refuse_47 (Nat.le_of_ble_eq_true rfl) hQ
    · replace hQ := hQ.1 c2
      exact ev_throwW 1 88 382 92 8 "this is not possible now" (by decide) (by decide) rfl (by decide) kw_648 kw_44 (List.mem_of_getElem? (i := 8) rfl) at_X9_92 dX9_refuse_21 dX9_refuse_24 dX9_refuse_25 dX9_refuse_28 dX9_refuse_31 (Nat.le_of_ble_eq_true rfl) hQ
  · replace hQ := hQ.1 c1
    exact ev_throwW 0 377 379 381 6 "there is no such thing" (by decide) (by decide) rfl (by decide) kw_969 kw_45 (List.mem_of_getElem? (i := 6) rfl) at_X9_381 dX9_refuse_5 dX9_refuse_8 dX9_refuse_9 dX9_refuse_12 dX9_refuse_15 (Nat.le_of_ble_eq_true rfl) hQ
set_option maxHeartbeats 4000000 in
set_option maxRecDepth 100000 in
theorem sg_X3_newestGame_0 {g : ev_G} {S : ev_S} {Q : ev_O → ev_S → Prop} (a : Nat) (hQ : ((S.1 a 2) < 0 → (
    (False) ∧ True)) ∧
  (¬ ((S.1 a 2) < 0) → (
    (8 ≤ (S.1 a 2) → (
      (False) ∧ True)) ∧
    (¬ (8 ≤ (S.1 a 2)) → (
      (vp_in (S.1 a 2) 8) ∧ (
        Q (.inl (some (ev_o 2 (a_past (a + 1) (S.1 a 2))))) S)))))) : ev_Cv g m_X3_newestGame 1 0 [ev_o 3 a] S Q := by
  refine ev_enter (by decide) rfl rfl (Nat.le_of_ble_eq_true rfl) ?_
  show ev_E g m_X3_newestGame 1 0 0 [some (ev_o 3 a)] [] S Q
  refine ev_aload_n (ev_o 3 a) dX3_newestGame_0 rfl rfl ?_
  refine gf_3_2 dX3_newestGame_1 kw_327 ?_
  refine ev_if_lt 31 dX3_newestGame_4 (by decide) (fun c1 => ?_) (fun c1 => ?_)
  · replace hQ := hQ.1 c1
    exact hQ.1.elim
  · replace hQ := hQ.2 c1
    refine ev_aload_n (ev_o 3 a) dX3_newestGame_7 rfl rfl ?_
    refine gf_3_2 dX3_newestGame_8 kw_327 ?_
    refine ev_aload_n (ev_o 3 a) dX3_newestGame_11 rfl rfl ?_
    refine gf_3_0 dX3_newestGame_12 kw_325 ?_
    refine ev_glen 8 dX3_newestGame_15 rfl ?_
    refine ev_icmp_ge 31 dX3_newestGame_16 (by decide) (fun c2 => ?_) (fun c2 => ?_)
    · replace hQ := hQ.1 c2
      exact hQ.1.elim
    · replace hQ := hQ.2 c2
      refine ev_aload_n (ev_o 3 a) dX3_newestGame_19 rfl rfl ?_
      refine gf_3_0 dX3_newestGame_20 kw_325 ?_
      refine ev_aload_n (ev_o 3 a) dX3_newestGame_23 rfl rfl ?_
      refine gf_3_2 dX3_newestGame_24 kw_327 ?_
      obtain ⟨h1, hQ⟩ := hQ
      refine ev_aal dX3_newestGame_27 h1 ?_
      show ev_E g m_X3_newestGame 1 0 28 [some (ev_o 3 a)] [ev_o 2 (a_past (a + 1) (S.1 a 2))] S Q
      refine ev_goto 32 dX3_newestGame_28 (by decide) ?_
      exact ev_areturn _ dX3_newestGame_32 rfl rfl (Or.inl ⟨_, rfl⟩) hQ
set_option maxHeartbeats 4000000 in
set_option maxRecDepth 100000 in
theorem sp_X3_newestGame {g : ev_G} {S : ev_S} (a : Nat) (q0 : ((S.1 a 2) < 0) → False) (q1 : ¬ ((S.1 a 2) < 0) → (8 ≤ (S.1 a 2)) → False) (q2 : ¬ ((S.1 a 2) < 0) → ¬ (8 ≤ (S.1 a 2)) → vp_in (S.1 a 2) 8) : ev_Fn g m_X3_newestGame 1 [ev_o 3 a] S (some (ev_o 2 (a_past (a + 1) (S.1 a 2)))) S := by
  intro Q hQ
  refine sg_X3_newestGame_0 a ?_
  refine ⟨fun c1 => ?_, fun c1 => ?_⟩
  · skip
    exact (q0 c1).elim
  · skip
    refine ⟨fun c2 => ?_, fun c2 => ?_⟩
    · skip
      exact (q1 c1 c2).elim
    · skip
      refine ⟨(q2 c1 c2), ?_⟩
      exact hQ
set_option maxHeartbeats 4000000 in
set_option maxRecDepth 100000 in
theorem sg_X3_remember_0 {g : ev_G} {S : ev_S} {Q : ev_O → ev_S → Prop} (a : Nat) (b0 : Nat) (hQ : (8 ≤ ((S.1 a 2) + 1) → (
    ∀ S1 : ev_S, S1 = (ev_up S a 2 0) → (
      ∀ S2 : ev_S, S2 = (ev_up S1 a 1 (ev_min ((S.1 a 1) + 1) 8)) → (
        (((S2.1 a 2) < 0) → False) ∧ (
          (¬ ((S2.1 a 2) < 0) → (8 ≤ (S2.1 a 2)) → False) ∧ (
            (¬ ((S2.1 a 2) < 0) → ¬ (8 ≤ (S2.1 a 2)) → vp_in (S2.1 a 2) 8) ∧ (
              ev_Cv g m_X2_copyFrom 4 0 [ev_o 2 (a_past (a + 1) (S2.1 a 2)), ev_o 2 b0] S2 (fun o S3 => o = .inl none ∧ (
                Q (.inl none) S3))))))))) ∧
  (¬ (8 ≤ ((S.1 a 2) + 1)) → (
    ∀ S4 : ev_S, S4 = (ev_up S a 2 ((S.1 a 2) + 1)) → (
      ∀ S5 : ev_S, S5 = (ev_up S4 a 1 (ev_min ((S.1 a 1) + 1) 8)) → (
        (((S5.1 a 2) < 0) → False) ∧ (
          (¬ ((S5.1 a 2) < 0) → (8 ≤ (S5.1 a 2)) → False) ∧ (
            (¬ ((S5.1 a 2) < 0) → ¬ (8 ≤ (S5.1 a 2)) → vp_in (S5.1 a 2) 8) ∧ (
              ev_Cv g m_X2_copyFrom 4 0 [ev_o 2 (a_past (a + 1) (S5.1 a 2)), ev_o 2 b0] S5 (fun o S6 => o = .inl none ∧ (
                Q (.inl none) S6)))))))))) : ev_Cv g m_X3_remember 5 0 [ev_o 3 a, ev_o 2 b0] S Q := by
  refine ev_enter (by decide) rfl rfl (Nat.le_of_ble_eq_true rfl) ?_
  show ev_E g m_X3_remember 5 0 0 [some (ev_o 3 a), some (ev_o 2 b0), none] [] S Q
  refine ev_aload_n (ev_o 3 a) dX3_remember_0 rfl rfl ?_
  refine ev_aload_n (ev_o 3 a) dX3_remember_1 rfl rfl ?_
  refine gf_3_2 dX3_remember_2 kw_327 ?_
  refine ev_iconst (1) dX3_remember_5 rfl ?_
  refine ev_iadd dX3_remember_6 ?_
  refine ev_aload_n (ev_o 3 a) dX3_remember_7 rfl rfl ?_
  refine gf_3_0 dX3_remember_8 kw_325 ?_
  refine ev_glen 8 dX3_remember_11 rfl ?_
  refine ev_icmp_ge 24 dX3_remember_12 (by decide) (fun c1 => ?_) (fun c1 => ?_)
  · replace hQ := hQ.1 c1
    refine ev_iconst (0) dX3_remember_24 rfl ?_
    refine pf_3_2 dX3_remember_25 kw_327 ?_
    refine ev_sub hQ (fun S1 hS1 hQ => ?_)
    refine ev_E.goal (pc' := 28) (L' := [some (ev_o 3 a), some (ev_o 2 b0), none]) (K' := []) (S' := S1) ?_ rfl rfl rfl hS1
    refine ev_aload_n (ev_o 3 a) dX3_remember_28 rfl rfl ?_
    refine ev_aload_n (ev_o 3 a) dX3_remember_29 rfl rfl ?_
    refine gf_3_1 dX3_remember_30 kw_326 ?_
    refine ev_ke (j_rk hS1 (Or.inr (by decide))) ?_
    refine ev_iconst (1) dX3_remember_33 rfl ?_
    refine ev_iadd dX3_remember_34 ?_
    refine ev_aload_n (ev_o 3 a) dX3_remember_35 rfl rfl ?_
    refine gf_3_0 dX3_remember_36 kw_325 ?_
    refine ev_glen 8 dX3_remember_39 rfl ?_
    refine ev_mathMin dX3_remember_40 kw_1570 kw_424 kw_31 kw_425 (Nat.le_of_ble_eq_true rfl) ?_
    refine pf_3_1 dX3_remember_43 kw_326 ?_
    refine ev_sub hQ (fun S2 hS2 hQ => ?_)
    refine ev_E.goal (pc' := 46) (L' := [some (ev_o 3 a), some (ev_o 2 b0), none]) (K' := []) (S' := S2) ?_ rfl rfl rfl hS2
    refine ev_aload_n (ev_o 3 a) dX3_remember_46 rfl rfl ?_
    obtain ⟨h1, hQ⟩ := hQ
    obtain ⟨h2, hQ⟩ := hQ
    obtain ⟨h3, hQ⟩ := hQ
    refine ev_fV mv_X3_newestGame 1 3 [] [] dX3_remember_47 kw_720 rfl (by decide) rfl (by decide) (Nat.le_of_ble_eq_true rfl) (sp_X3_newestGame a h1 h2 h3) ?_ rfl
    refine ev_astore_n dX3_remember_50 rfl (Nat.le_of_ble_eq_true rfl) (ev_hw rfl) ?_
    show ev_E g m_X3_remember 5 0 51 [some (ev_o 3 a), some (ev_o 2 b0), some (ev_o 2 (a_past (a + 1) (S2.1 a 2)))] [] S2 Q
    refine ev_aload_n (ev_o 2 (a_past (a + 1) (S2.1 a 2))) dX3_remember_51 rfl rfl ?_
    refine ev_ifnull dX3_remember_52 rfl ?_
    refine ev_aload_n (ev_o 2 (a_past (a + 1) (S2.1 a 2))) dX3_remember_55 rfl rfl ?_
    refine ev_aload_n (ev_o 2 b0) dX3_remember_56 rfl rfl ?_
    refine ev_cV mv_X2_copyFrom 4 0 2 [ev_o 2 b0] [] dX3_remember_57 kw_724 rfl (by decide) rfl (by decide) (by decide) (Nat.le_of_ble_eq_true rfl) hQ ?_ rfl
    rintro o S3 ⟨rfl, hQ⟩
    show ev_E g m_X3_remember 5 0 60 [some (ev_o 3 a), some (ev_o 2 b0), some (ev_o 2 (a_past (a + 1) (S2.1 a 2)))] [] S3 Q
    exact ev_return dX3_remember_60 rfl hQ
  · replace hQ := hQ.2 c1
    refine ev_aload_n (ev_o 3 a) dX3_remember_15 rfl rfl ?_
    refine gf_3_2 dX3_remember_16 kw_327 ?_
    refine ev_iconst (1) dX3_remember_19 rfl ?_
    refine ev_iadd dX3_remember_20 ?_
    refine ev_goto 25 dX3_remember_21 (by decide) ?_
    refine pf_3_2 dX3_remember_25 kw_327 ?_
    refine ev_sub hQ (fun S4 hS4 hQ => ?_)
    refine ev_E.goal (pc' := 28) (L' := [some (ev_o 3 a), some (ev_o 2 b0), none]) (K' := []) (S' := S4) ?_ rfl rfl rfl hS4
    refine ev_aload_n (ev_o 3 a) dX3_remember_28 rfl rfl ?_
    refine ev_aload_n (ev_o 3 a) dX3_remember_29 rfl rfl ?_
    refine gf_3_1 dX3_remember_30 kw_326 ?_
    refine ev_ke (j_rk hS4 (Or.inr (by decide))) ?_
    refine ev_iconst (1) dX3_remember_33 rfl ?_
    refine ev_iadd dX3_remember_34 ?_
    refine ev_aload_n (ev_o 3 a) dX3_remember_35 rfl rfl ?_
    refine gf_3_0 dX3_remember_36 kw_325 ?_
    refine ev_glen 8 dX3_remember_39 rfl ?_
    refine ev_mathMin dX3_remember_40 kw_1570 kw_424 kw_31 kw_425 (Nat.le_of_ble_eq_true rfl) ?_
    refine pf_3_1 dX3_remember_43 kw_326 ?_
    refine ev_sub hQ (fun S5 hS5 hQ => ?_)
    refine ev_E.goal (pc' := 46) (L' := [some (ev_o 3 a), some (ev_o 2 b0), none]) (K' := []) (S' := S5) ?_ rfl rfl rfl hS5
    refine ev_aload_n (ev_o 3 a) dX3_remember_46 rfl rfl ?_
    obtain ⟨h4, hQ⟩ := hQ
    obtain ⟨h5, hQ⟩ := hQ
    obtain ⟨h6, hQ⟩ := hQ
    refine ev_fV mv_X3_newestGame 1 3 [] [] dX3_remember_47 kw_720 rfl (by decide) rfl (by decide) (Nat.le_of_ble_eq_true rfl) (sp_X3_newestGame a h4 h5 h6) ?_ rfl
    refine ev_astore_n dX3_remember_50 rfl (Nat.le_of_ble_eq_true rfl) (ev_hw rfl) ?_
    show ev_E g m_X3_remember 5 0 51 [some (ev_o 3 a), some (ev_o 2 b0), some (ev_o 2 (a_past (a + 1) (S5.1 a 2)))] [] S5 Q
    refine ev_aload_n (ev_o 2 (a_past (a + 1) (S5.1 a 2))) dX3_remember_51 rfl rfl ?_
    refine ev_ifnull dX3_remember_52 rfl ?_
    refine ev_aload_n (ev_o 2 (a_past (a + 1) (S5.1 a 2))) dX3_remember_55 rfl rfl ?_
    refine ev_aload_n (ev_o 2 b0) dX3_remember_56 rfl rfl ?_
    refine ev_cV mv_X2_copyFrom 4 0 2 [ev_o 2 b0] [] dX3_remember_57 kw_724 rfl (by decide) rfl (by decide) (by decide) (Nat.le_of_ble_eq_true rfl) hQ ?_ rfl
    rintro o S6 ⟨rfl, hQ⟩
    show ev_E g m_X3_remember 5 0 60 [some (ev_o 3 a), some (ev_o 2 b0), some (ev_o 2 (a_past (a + 1) (S5.1 a 2)))] [] S6 Q
    exact ev_return dX3_remember_60 rfl hQ
set_option maxHeartbeats 4000000 in
set_option maxRecDepth 100000 in
theorem sg_X9_moveOf_0 {g : ev_G} {S : ev_S} {Q : ev_O → ev_S → Prop} (x0 : Int32) (x1 : Int32) (hQ : Q (.inl (some (ev_i ((x0 * 64) + x1)))) S) : ev_Cv g m_X9_moveOf 1 0 [ev_i x0, ev_i x1] S Q := by
  refine ev_enter (by decide) rfl rfl (Nat.le_of_ble_eq_true rfl) ?_
  show ev_E g m_X9_moveOf 1 0 0 [some (ev_i x0), some (ev_i x1)] [] S Q
  refine ev_iload_n (x0) dX9_moveOf_0 rfl ?_
  refine ev_bipush (64) dX9_moveOf_1 (by decide) ?_
  refine ev_imul dX9_moveOf_3 ?_
  refine ev_iload_n (x1) dX9_moveOf_4 rfl ?_
  refine ev_iadd dX9_moveOf_5 ?_
  exact ev_ireturn .int dX9_moveOf_6 rfl rfl hQ
set_option maxHeartbeats 4000000 in
set_option maxRecDepth 100000 in
theorem sp_X9_moveOf {g : ev_G} {S : ev_S} (x0 : Int32) (x1 : Int32)  : ev_Fn g m_X9_moveOf 1 [ev_i x0, ev_i x1] S (some (ev_i ((x0 * 64) + x1))) S := by
  intro Q hQ
  refine sg_X9_moveOf_0 x0 x1 ?_
  exact hQ
set_option maxHeartbeats 4000000 in
set_option maxRecDepth 100000 in
theorem sg_X1_playOwn_0 {g : ev_G} {S : ev_S} {Q : ev_O → ev_S → Prop} (a : Nat) (x0 : Int32) (x1 : Int32) (hQ : ev_Cv g m_X0_play 3 0 [ev_o 0 (a + 1), ev_i x0] S (fun o S1 => o = .inl none ∧ (
    ∀ S2 : ev_S, S2 = (ev_up S1 a 7 x1) → (
      Q (.inl none) S2)))) : ev_Cv g m_X1_playOwn 4 0 [ev_o 1 a, ev_i x0, ev_i x1] S Q := by
  refine ev_enter (by decide) rfl rfl (Nat.le_of_ble_eq_true rfl) ?_
  show ev_E g m_X1_playOwn 4 0 0 [some (ev_o 1 a), some (ev_i x0), some (ev_i x1)] [] S Q
  refine ev_aload_n (ev_o 1 a) dX1_playOwn_0 rfl rfl ?_
  refine gf_1_1 dX1_playOwn_1 kw_179 ?_
  refine ev_iload_n (x0) dX1_playOwn_4 rfl ?_
  refine ev_cV mv_X0_play 3 0 0 [ev_i x0] [] dX1_playOwn_5 kw_1464 rfl (by decide) rfl (by decide) (by decide) (Nat.le_of_ble_eq_true rfl) hQ ?_ rfl
  rintro o S1 ⟨rfl, hQ⟩
  show ev_E g m_X1_playOwn 4 0 8 [some (ev_o 1 a), some (ev_i x0), some (ev_i x1)] [] S1 Q
  refine ev_aload_n (ev_o 1 a) dX1_playOwn_8 rfl rfl ?_
  refine ev_iload_n (x1) dX1_playOwn_9 rfl ?_
  refine pf_1_7 dX1_playOwn_10 kw_185 ?_
  refine ev_sub hQ (fun S2 hS2 hQ => ?_)
  refine ev_E.goal (pc' := 13) (L' := [some (ev_o 1 a), some (ev_i x0), some (ev_i x1)]) (K' := []) (S' := S2) ?_ rfl rfl rfl hS2
  exact ev_return dX1_playOwn_13 rfl hQ
set_option maxHeartbeats 4000000 in
set_option maxRecDepth 100000 in
theorem sg_X2_makeMove_0 {g : ev_G} {S : ev_S} {Q : ev_O → ev_S → Prop} (a : Nat) (x0 : Int32) (x1 : Int32) (x2 : Int32) (x3 : Int32) (hQ : ev_Cv g m_X1_playOwn 4 0 [ev_o 1 (a_X2_deskOf a x0), ev_i ((x1 * 64) + x2), ev_i (S.1 a 4)] S (fun o S1 => o = .inl none ∧ (
    ev_Cv g m_X6_add 3 0 [ev_o 6 (a + 19), ev_i x0, ev_i ((S.1 ((a_X2_deskOf a x0) + 1) 6) + 1), ev_i ((x1 * 64) + x2), ev_i (-1), ev_i x3, ev_i (S1.1 a 4)] S1 (fun o S2 => ∃ v2_ : Int32, o = .inl (some (ev_i v2_)) ∧ (
      ev_Cv g m_X1_settle 4 0 [ev_o 1 (a_X2_deskOf a x0), ev_i (S2.1 a 4)] S2 (fun o S3 => o = .inl none ∧ (
        Q (.inl (some (ev_i ((S.1 ((a_X2_deskOf a x0) + 1) 6) + 1)))) S3))))))) : ev_Cv g m_X2_makeMove 5 0 [ev_o 2 a, ev_i x0, ev_i x1, ev_i x2, ev_i x3] S Q := by
  refine ev_enter (by decide) rfl rfl (Nat.le_of_ble_eq_true rfl) ?_
  show ev_E g m_X2_makeMove 5 0 0 [some (ev_o 2 a), some (ev_i x0), some (ev_i x1), some (ev_i x2), some (ev_i x3), none, none, none] [] S Q
  refine ev_aload_n (ev_o 2 a) dX2_makeMove_0 rfl rfl ?_
  refine ev_iload_n (x0) dX2_makeMove_1 rfl ?_
  refine ev_fV mv_X2_deskOf 1 2 [ev_i x0] [] dX2_makeMove_2 kw_492 rfl (by decide) rfl (by decide) (Nat.le_of_ble_eq_true rfl) (sp_X2_deskOf a x0) ?_ rfl
  refine ev_astore dX2_makeMove_5 rfl (Nat.le_of_ble_eq_true rfl) (ev_hw rfl) ?_
  show ev_E g m_X2_makeMove 5 0 7 [some (ev_o 2 a), some (ev_i x0), some (ev_i x1), some (ev_i x2), some (ev_i x3), some (ev_o 1 (a_X2_deskOf a x0)), none, none] [] S Q
  refine ev_aload (ev_o 1 (a_X2_deskOf a x0)) dX2_makeMove_7 rfl rfl ?_
  refine ev_fV mv_X1_board 1 1 [] [] dX2_makeMove_9 kw_496 rfl (by decide) rfl (by decide) (Nat.le_of_ble_eq_true rfl) (sp_X1_board (a_X2_deskOf a x0)) ?_ rfl
  refine ev_fV mv_X0_nextNumber 1 0 [] [] dX2_makeMove_12 kw_1099 rfl (by decide) rfl (by decide) (Nat.le_of_ble_eq_true rfl) (sp_X0_nextNumber ((a_X2_deskOf a x0) + 1)) ?_ rfl
  refine ev_istore dX2_makeMove_15 (Nat.le_of_ble_eq_true rfl) (ev_hw rfl) ?_
  show ev_E g m_X2_makeMove 5 0 17 [some (ev_o 2 a), some (ev_i x0), some (ev_i x1), some (ev_i x2), some (ev_i x3), some (ev_o 1 (a_X2_deskOf a x0)), some (ev_i ((S.1 ((a_X2_deskOf a x0) + 1) 6) + 1)), none] [] S Q
  refine ev_iload_n (x1) dX2_makeMove_17 rfl ?_
  refine ev_iload_n (x2) dX2_makeMove_18 rfl ?_
  refine ev_fN ms_X9_moveOf 1 [ev_i x1, ev_i x2] [] dX2_makeMove_19 (List.mem_of_getElem? (i := 30) rfl) rfl (by decide) (Nat.le_of_ble_eq_true rfl) (sp_X9_moveOf x1 x2) ?_ rfl
  refine ev_istore dX2_makeMove_22 (Nat.le_of_ble_eq_true rfl) (ev_hw rfl) ?_
  show ev_E g m_X2_makeMove 5 0 24 [some (ev_o 2 a), some (ev_i x0), some (ev_i x1), some (ev_i x2), some (ev_i x3), some (ev_o 1 (a_X2_deskOf a x0)), some (ev_i ((S.1 ((a_X2_deskOf a x0) + 1) 6) + 1)), some (ev_i ((x1 * 64) + x2))] [] S Q
  refine ev_aload (ev_o 1 (a_X2_deskOf a x0)) dX2_makeMove_24 rfl rfl ?_
  refine ev_iload (((x1 * 64) + x2)) dX2_makeMove_26 rfl ?_
  refine ev_aload_n (ev_o 2 a) dX2_makeMove_28 rfl rfl ?_
  refine gf_2_4 dX2_makeMove_29 kw_301 ?_
  refine ev_cV mv_X1_playOwn 4 0 1 [ev_i ((x1 * 64) + x2), ev_i (S.1 a 4)] [] dX2_makeMove_32 kw_1578 rfl (by decide) rfl (by decide) (by decide) (Nat.le_of_ble_eq_true rfl) hQ ?_ rfl
  rintro o S1 ⟨rfl, hQ⟩
  show ev_E g m_X2_makeMove 5 0 35 [some (ev_o 2 a), some (ev_i x0), some (ev_i x1), some (ev_i x2), some (ev_i x3), some (ev_o 1 (a_X2_deskOf a x0)), some (ev_i ((S.1 ((a_X2_deskOf a x0) + 1) 6) + 1)), some (ev_i ((x1 * 64) + x2))] [] S1 Q
  refine ev_aload_n (ev_o 2 a) dX2_makeMove_35 rfl rfl ?_
  refine gf_2_2 dX2_makeMove_36 kw_299 ?_
  refine ev_iload_n (x0) dX2_makeMove_39 rfl ?_
  refine ev_iload (((S.1 ((a_X2_deskOf a x0) + 1) 6) + 1)) dX2_makeMove_40 rfl ?_
  refine ev_iload (((x1 * 64) + x2)) dX2_makeMove_42 rfl ?_
  refine ev_iconst (-1) dX2_makeMove_44 rfl ?_
  refine ev_iload (x3) dX2_makeMove_45 rfl ?_
  refine ev_aload_n (ev_o 2 a) dX2_makeMove_47 rfl rfl ?_
  refine gf_2_4 dX2_makeMove_48 kw_301 ?_
  refine ev_cV mv_X6_add 3 0 6 [ev_i x0, ev_i ((S.1 ((a_X2_deskOf a x0) + 1) 6) + 1), ev_i ((x1 * 64) + x2), ev_i (-1), ev_i x3, ev_i (S1.1 a 4)] [] dX2_makeMove_51 kw_1582 rfl (by decide) rfl (by decide) (by decide) (Nat.le_of_ble_eq_true rfl) hQ ?_ rfl
  rintro o S2 ⟨v2_, rfl, hQ⟩
  show ev_E g m_X2_makeMove 5 0 54 [some (ev_o 2 a), some (ev_i x0), some (ev_i x1), some (ev_i x2), some (ev_i x3), some (ev_o 1 (a_X2_deskOf a x0)), some (ev_i ((S.1 ((a_X2_deskOf a x0) + 1) 6) + 1)), some (ev_i ((x1 * 64) + x2))] [ev_i v2_] S2 Q
  refine ev_pop dX2_makeMove_54 rfl ?_
  refine ev_aload (ev_o 1 (a_X2_deskOf a x0)) dX2_makeMove_55 rfl rfl ?_
  refine ev_aload_n (ev_o 2 a) dX2_makeMove_57 rfl rfl ?_
  refine gf_2_4 dX2_makeMove_58 kw_301 ?_
  refine ev_cV mv_X1_settle 4 0 1 [ev_i (S2.1 a 4)] [] dX2_makeMove_61 kw_1459 rfl (by decide) rfl (by decide) (by decide) (Nat.le_of_ble_eq_true rfl) hQ ?_ rfl
  rintro o S3 ⟨rfl, hQ⟩
  show ev_E g m_X2_makeMove 5 0 64 [some (ev_o 2 a), some (ev_i x0), some (ev_i x1), some (ev_i x2), some (ev_i x3), some (ev_o 1 (a_X2_deskOf a x0)), some (ev_i ((S.1 ((a_X2_deskOf a x0) + 1) 6) + 1)), some (ev_i ((x1 * 64) + x2))] [] S3 Q
  refine ev_iload (((S.1 ((a_X2_deskOf a x0) + 1) 6) + 1)) dX2_makeMove_64 rfl ?_
  exact ev_ireturn .int dX2_makeMove_66 rfl rfl hQ
set_option maxHeartbeats 4000000 in
set_option maxRecDepth 100000 in
theorem sg_X9_move_0 {g : ev_G} {S : ev_S} {Q : ev_O → ev_S → Prop} (a : Nat) (x0 : Int32) (x1 : Int32) (x2 : Int32) (x3 : Int32) (hQ : ev_Cv g m_X2_moveFault 5 0 [ev_o 2 (a + 11), ev_i x0, ev_i x1, ev_i x2, ev_i x3] S (fun o S1 => ∃ v1_ : Int32, o = .inl (some (ev_i v1_)) ∧ (
    (v1_ = 1 → (
      Q (.inr 0) S1)) ∧
    (¬ (v1_ = 1) → (
      (v1_ = 2 → (
        Q (.inr 1) S1)) ∧
      (¬ (v1_ = 2) → (
        (v1_ = 3 → (
          Q (.inr 2) S1)) ∧
        (¬ (v1_ = 3) → (
          ev_Cv g m_X3_remember 5 0 [ev_o 3 (a + 93), ev_o 2 (a + 11)] S1 (fun o S2 => o = .inl none ∧ (
            ev_Cv g m_X2_makeMove 5 0 [ev_o 2 (a + 11), ev_i x0, ev_i x1, ev_i x2, ev_i x3] S2 (fun o S3 => ∃ v3_ : Int32, o = .inl (some (ev_i v3_)) ∧ (
              Q (.inl (some (ev_i v3_))) S3))))))))))))) : ev_Cv g m_X9_move 6 1 [ev_o 9 a, ev_i x0, ev_i x1, ev_i x2, ev_i x3] S Q := by
  refine ev_enter (by decide) rfl rfl (Nat.le_of_ble_eq_true rfl) ?_
  show ev_E g m_X9_move 6 1 0 [some (ev_o 9 a), some (ev_i x0), some (ev_i x1), some (ev_i x2), some (ev_i x3)] [] S Q
  refine ev_aload_n (ev_o 9 a) dX9_move_0 rfl rfl ?_
  refine gf_9_3 dX9_move_1 kw_601 ?_
  refine ev_iload_n (x0) dX9_move_4 rfl ?_
  refine ev_iload_n (x1) dX9_move_5 rfl ?_
  refine ev_iload_n (x2) dX9_move_6 rfl ?_
  refine ev_iload (x3) dX9_move_7 rfl ?_
  refine ev_cV mv_X2_moveFault 5 0 2 [ev_i x0, ev_i x1, ev_i x2, ev_i x3] [] dX9_move_9 kw_1532 rfl (by decide) rfl (by decide) (by decide) (Nat.le_of_ble_eq_true rfl) hQ ?_ rfl
  rintro o S1 ⟨v1_, rfl, hQ⟩
  show ev_E g m_X9_move 6 1 12 [some (ev_o 9 a), some (ev_i x0), some (ev_i x1), some (ev_i x2), some (ev_i x3)] [ev_i v1_] S1 Q
  refine ev_cS ms_X9_refuse 1 1 [ev_i v1_] [] dX9_move_12 kw_1546 rfl (by decide) (by decide) (Nat.le_of_ble_eq_true rfl) (Q' := fun o z => ev_After g m_X9_move 6 (1 - 1) 12 [some (ev_o 9 a), some (ev_i x0), some (ev_i x1), some (ev_i x2), some (ev_i x3)] [] z Q o) (sg_X9_refuse_0 v1_ ?_) (fun o z h => h) rfl
  refine ⟨fun c1 => ?_, fun c1 => ?_⟩
  · replace hQ := hQ.1 c1
    exact ev_T_out (by decide) rfl hQ
  · replace hQ := hQ.2 c1
    refine ⟨fun c2 => ?_, fun c2 => ?_⟩
    · replace hQ := hQ.1 c2
      exact ev_T_out (by decide) rfl hQ
    · replace hQ := hQ.2 c2
      refine ⟨fun c3 => ?_, fun c3 => ?_⟩
      · replace hQ := hQ.1 c3
        exact ev_T_out (by decide) rfl hQ
      · replace hQ := hQ.2 c3
        show ev_E g m_X9_move 6 0 15 [some (ev_o 9 a), some (ev_i x0), some (ev_i x1), some (ev_i x2), some (ev_i x3)] [] S1 Q
        refine ev_aload_n (ev_o 9 a) dX9_move_15 rfl rfl ?_
        refine gf_9_5 dX9_move_16 kw_603 ?_
        refine ev_aload_n (ev_o 9 a) dX9_move_19 rfl rfl ?_
        refine gf_9_3 dX9_move_20 kw_601 ?_
        refine ev_cV mv_X3_remember 5 0 3 [ev_o 2 (a + 11)] [] dX9_move_23 kw_1566 rfl (by decide) rfl (by decide) (by decide) (Nat.le_of_ble_eq_true rfl) hQ ?_ rfl
        rintro o S2 ⟨rfl, hQ⟩
        show ev_E g m_X9_move 6 0 26 [some (ev_o 9 a), some (ev_i x0), some (ev_i x1), some (ev_i x2), some (ev_i x3)] [] S2 Q
        refine ev_aload_n (ev_o 9 a) dX9_move_26 rfl rfl ?_
        refine gf_9_3 dX9_move_27 kw_601 ?_
        refine ev_iload_n (x0) dX9_move_30 rfl ?_
        refine ev_iload_n (x1) dX9_move_31 rfl ?_
        refine ev_iload_n (x2) dX9_move_32 rfl ?_
        refine ev_iload (x3) dX9_move_33 rfl ?_
        refine ev_cV mv_X2_makeMove 5 0 2 [ev_i x0, ev_i x1, ev_i x2, ev_i x3] [] dX9_move_35 kw_1571 rfl (by decide) rfl (by decide) (by decide) (Nat.le_of_ble_eq_true rfl) hQ ?_ rfl
        rintro o S3 ⟨v3_, rfl, hQ⟩
        show ev_E g m_X9_move 6 0 38 [some (ev_o 9 a), some (ev_i x0), some (ev_i x1), some (ev_i x2), some (ev_i x3)] [ev_i v3_] S3 Q
        exact ev_ireturn .int dX9_move_38 rfl rfl hQ
set_option maxHeartbeats 4000000 in
set_option maxRecDepth 100000 in
theorem sg_X2_promiseFault_0 {g : ev_G} {S : ev_S} {Q : ev_O → ev_S → Prop} (a : Nat) (x0 : Int32) (x1 : Int32) (x2 : Int32) (x3 : Int32) (x4 : Int32) (x5 : Int32) (hQ : ((t_X9_isPlayer x0) = true → (
    ((t_X5_exists S (a + 20) x1) = true → (
      ((t_X2_isSquare S a x2) = true → (
        ((t_X2_isSquare S a x3) = true → (
          ((t_X2_isSquare S a x4) = true → (
            ((t_X2_isSquare S a x5) = true → (
              ((t_X0_isFinished S ((a_X2_deskOf a x0) + 1)) = true → (
                Q (.inl (some (ev_i 2))) S)) ∧
              (¬ ((t_X0_isFinished S ((a_X2_deskOf a x0) + 1)) = true) → (
                ((t_X1_mayPlay S (a_X2_deskOf a x0)) = true → (
                  Q (.inl (some (ev_i 2))) S)) ∧
                (¬ ((t_X1_mayPlay S (a_X2_deskOf a x0)) = true) → (
                  ((j_at (S.1 ((a_X2_deskOf a x0) + 8)) 61 (((S.1 ((a_X2_deskOf a x0) + 1) 6) + 1) + 1)) = (-1) → (
                    ((S.1 (a + 19) 13) < 80 → (
                      ((j_at (S.1 ((a_X2_deskOf a x0) + 2)) 64 x2) = (1 - x0) → (
                        ev_Cv g m_X0_canReach 3 0 [ev_o 0 ((a_X2_deskOf a x0) + 1), ev_i x2, ev_i x3] S (fun o S1 => ∃ v1_ : Bool, o = .inl (some (ev_i (if v1_ = true then 1 else 0))) ∧ (
                          (v1_ = true → (
                            ev_Cv g m_X0_copyFrom 2 0 [ev_o 0 (a + 36), ev_o 0 ((a_X2_deskOf a x0) + 1)] S1 (fun o S2 => o = .inl none ∧ (
                              ev_Cv g m_X0_play 3 0 [ev_o 0 (a + 36), ev_i ((x2 * 64) + x3)] S2 (fun o S3 => o = .inl none ∧ (
                                ((t_X0_isFinished S3 (a + 36)) = true → (
                                  Q (.inl (some (ev_i 3))) S3)) ∧
                                (¬ ((t_X0_isFinished S3 (a + 36)) = true) → (
                                  ((j_at (S3.1 (a + 37)) 64 x4) = x0 → (
                                    ev_Cv g m_X0_canReach 3 0 [ev_o 0 (a + 36), ev_i x4, ev_i x5] S3 (fun o S4 => ∃ v4_ : Bool, o = .inl (some (ev_i (if v4_ = true then 1 else 0))) ∧ (
                                      (v4_ = true → (
                                        Q (.inl (some (ev_i 0))) S4)) ∧
                                      (¬ (v4_ = true) → (
                                        Q (.inl (some (ev_i 3))) S4)))))) ∧
                                  (¬ ((j_at (S3.1 (a + 37)) 64 x4) = x0) → (
                                    Q (.inl (some (ev_i 3))) S3)))))))))) ∧
                          (¬ (v1_ = true) → (
                            Q (.inl (some (ev_i 3))) S1)))))) ∧
                      (¬ ((j_at (S.1 ((a_X2_deskOf a x0) + 2)) 64 x2) = (1 - x0)) → (
                        Q (.inl (some (ev_i 3))) S)))) ∧
                    (¬ ((S.1 (a + 19) 13) < 80) → (
                      Q (.inl (some (ev_i 2))) S)))) ∧
                  (¬ ((j_at (S.1 ((a_X2_deskOf a x0) + 8)) 61 (((S.1 ((a_X2_deskOf a x0) + 1) 6) + 1) + 1)) = (-1)) → (
                    Q (.inl (some (ev_i 2))) S)))))))) ∧
            (¬ ((t_X2_isSquare S a x5) = true) → (
              Q (.inl (some (ev_i 1))) S)))) ∧
          (¬ ((t_X2_isSquare S a x4) = true) → (
            Q (.inl (some (ev_i 1))) S)))) ∧
        (¬ ((t_X2_isSquare S a x3) = true) → (
          Q (.inl (some (ev_i 1))) S)))) ∧
      (¬ ((t_X2_isSquare S a x2) = true) → (
        Q (.inl (some (ev_i 1))) S)))) ∧
    (¬ ((t_X5_exists S (a + 20) x1) = true) → (
      Q (.inl (some (ev_i 1))) S)))) ∧
  (¬ ((t_X9_isPlayer x0) = true) → (
    Q (.inl (some (ev_i 1))) S))) : ev_Cv g m_X2_promiseFault 5 0 [ev_o 2 a, ev_i x0, ev_i x1, ev_i x2, ev_i x3, ev_i x4, ev_i x5] S Q := by
  refine ev_enter (by decide) rfl rfl (Nat.le_of_ble_eq_true rfl) ?_
  show ev_E g m_X2_promiseFault 5 0 0 [some (ev_o 2 a), some (ev_i x0), some (ev_i x1), some (ev_i x2), some (ev_i x3), some (ev_i x4), some (ev_i x5), none] [] S Q
  refine ev_iload_n (x0) dX2_promiseFault_0 rfl ?_
  refine ev_fN ms_X9_isPlayer 1 [ev_i x0] [] dX2_promiseFault_1 (List.mem_of_getElem? (i := 29) rfl) rfl (by decide) (Nat.le_of_ble_eq_true rfl) (sp_X9_isPlayer x0) ?_ rfl
  by_cases c1 : (t_X9_isPlayer x0) = true
  · rw [if_pos c1]
    replace hQ := hQ.1 c1
    refine ev_if_eq 53 dX2_promiseFault_4 (by decide) (fun h9 => absurd h9 (by decide : ¬ ((1 : Int32) = 0))) (fun _ => ?_)
    refine ev_aload_n (ev_o 2 a) dX2_promiseFault_7 rfl rfl ?_
    refine ev_fV mv_X2_passes 2 2 [] [] dX2_promiseFault_8 kw_1312 rfl (by decide) rfl (by decide) (Nat.le_of_ble_eq_true rfl) (sp_X2_passes a) ?_ rfl
    refine ev_iload_n (x1) dX2_promiseFault_11 rfl ?_
    refine ev_fV mv_X5_exists 1 5 [ev_i x1] [] dX2_promiseFault_12 kw_1538 rfl (by decide) rfl (by decide) (Nat.le_of_ble_eq_true rfl) (sp_X5_exists (a + 20) x1) ?_ rfl
    by_cases c2 : (t_X5_exists S (a + 20) x1) = true
    · rw [if_pos c2]
      replace hQ := hQ.1 c2
      refine ev_if_eq 53 dX2_promiseFault_15 (by decide) (fun h9 => absurd h9 (by decide : ¬ ((1 : Int32) = 0))) (fun _ => ?_)
      refine ev_aload_n (ev_o 2 a) dX2_promiseFault_18 rfl rfl ?_
      refine ev_iload_n (x2) dX2_promiseFault_19 rfl ?_
      refine ev_fV mv_X2_isSquare 3 2 [ev_i x2] [] dX2_promiseFault_20 kw_1537 rfl (by decide) rfl (by decide) (Nat.le_of_ble_eq_true rfl) (sp_X2_isSquare a x2) ?_ rfl
      by_cases c3 : (t_X2_isSquare S a x2) = true
      · rw [if_pos c3]
        replace hQ := hQ.1 c3
        refine ev_if_eq 53 dX2_promiseFault_23 (by decide) (fun h9 => absurd h9 (by decide : ¬ ((1 : Int32) = 0))) (fun _ => ?_)
        refine ev_aload_n (ev_o 2 a) dX2_promiseFault_26 rfl rfl ?_
        refine ev_iload (x3) dX2_promiseFault_27 rfl ?_
        refine ev_fV mv_X2_isSquare 3 2 [ev_i x3] [] dX2_promiseFault_29 kw_1537 rfl (by decide) rfl (by decide) (Nat.le_of_ble_eq_true rfl) (sp_X2_isSquare a x3) ?_ rfl
        by_cases c4 : (t_X2_isSquare S a x3) = true
        · rw [if_pos c4]
          replace hQ := hQ.1 c4
          refine ev_if_eq 53 dX2_promiseFault_32 (by decide) (fun h9 => absurd h9 (by decide : ¬ ((1 : Int32) = 0))) (fun _ => ?_)
          refine ev_aload_n (ev_o 2 a) dX2_promiseFault_35 rfl rfl ?_
          refine ev_iload (x4) dX2_promiseFault_36 rfl ?_
          refine ev_fV mv_X2_isSquare 3 2 [ev_i x4] [] dX2_promiseFault_38 kw_1537 rfl (by decide) rfl (by decide) (Nat.le_of_ble_eq_true rfl) (sp_X2_isSquare a x4) ?_ rfl
          by_cases c5 : (t_X2_isSquare S a x4) = true
          · rw [if_pos c5]
            replace hQ := hQ.1 c5
            refine ev_if_eq 53 dX2_promiseFault_41 (by decide) (fun h9 => absurd h9 (by decide : ¬ ((1 : Int32) = 0))) (fun _ => ?_)
            refine ev_aload_n (ev_o 2 a) dX2_promiseFault_44 rfl rfl ?_
            refine ev_iload (x5) dX2_promiseFault_45 rfl ?_
            refine ev_fV mv_X2_isSquare 3 2 [ev_i x5] [] dX2_promiseFault_47 kw_1537 rfl (by decide) rfl (by decide) (Nat.le_of_ble_eq_true rfl) (sp_X2_isSquare a x5) ?_ rfl
            by_cases c6 : (t_X2_isSquare S a x5) = true
            · rw [if_pos c6]
              replace hQ := hQ.1 c6
              refine ev_if_ne 55 dX2_promiseFault_50 (by decide) (fun _ => ?_) (fun h9 => absurd h9 (by decide : ¬ ((1 : Int32) = 0)))
              refine ev_aload_n (ev_o 2 a) dX2_promiseFault_55 rfl rfl ?_
              refine ev_iload_n (x0) dX2_promiseFault_56 rfl ?_
              refine ev_fV mv_X2_boardOf 2 2 [ev_i x0] [] dX2_promiseFault_57 kw_961 rfl (by decide) rfl (by decide) (Nat.le_of_ble_eq_true rfl) (sp_X2_boardOf a x0) ?_ rfl
              refine ev_astore dX2_promiseFault_60 rfl (Nat.le_of_ble_eq_true rfl) (ev_hw rfl) ?_
              show ev_E g m_X2_promiseFault 5 0 62 [some (ev_o 2 a), some (ev_i x0), some (ev_i x1), some (ev_i x2), some (ev_i x3), some (ev_i x4), some (ev_i x5), some (ev_o 0 ((a_X2_deskOf a x0) + 1))] [] S Q
              refine ev_aload (ev_o 0 ((a_X2_deskOf a x0) + 1)) dX2_promiseFault_62 rfl rfl ?_
              refine ev_fV mv_X0_isFinished 3 0 [] [] dX2_promiseFault_64 kw_1597 rfl (by decide) rfl (by decide) (Nat.le_of_ble_eq_true rfl) (sp_X0_isFinished ((a_X2_deskOf a x0) + 1)) ?_ rfl
              by_cases c7 : (t_X0_isFinished S ((a_X2_deskOf a x0) + 1)) = true
              · rw [if_pos c7]
                replace hQ := hQ.1 c7
                refine ev_if_ne 109 dX2_promiseFault_67 (by decide) (fun _ => ?_) (fun h9 => absurd h9 (by decide : ¬ ((1 : Int32) = 0)))
                refine ev_iconst (2) dX2_promiseFault_109 rfl ?_
                exact ev_ireturn .int dX2_promiseFault_110 rfl rfl hQ
              · rw [if_neg c7]
                replace hQ := hQ.2 c7
                refine ev_if_ne 109 dX2_promiseFault_67 (by decide) (fun h9 => absurd (by decide : ((0 : Int32) = 0)) h9) (fun _ => ?_)
                refine ev_aload_n (ev_o 2 a) dX2_promiseFault_70 rfl rfl ?_
                refine ev_iload_n (x0) dX2_promiseFault_71 rfl ?_
                refine ev_fV mv_X2_deskOf 1 2 [ev_i x0] [] dX2_promiseFault_72 kw_492 rfl (by decide) rfl (by decide) (Nat.le_of_ble_eq_true rfl) (sp_X2_deskOf a x0) ?_ rfl
                refine ev_fV mv_X1_mayPlay 4 1 [] [] dX2_promiseFault_75 kw_1539 rfl (by decide) rfl (by decide) (Nat.le_of_ble_eq_true rfl) (sp_X1_mayPlay (a_X2_deskOf a x0)) ?_ rfl
                by_cases c8 : (t_X1_mayPlay S (a_X2_deskOf a x0)) = true
                · rw [if_pos c8]
                  replace hQ := hQ.1 c8
                  refine ev_if_ne 109 dX2_promiseFault_78 (by decide) (fun _ => ?_) (fun h9 => absurd h9 (by decide : ¬ ((1 : Int32) = 0)))
                  refine ev_iconst (2) dX2_promiseFault_109 rfl ?_
                  exact ev_ireturn .int dX2_promiseFault_110 rfl rfl hQ
                · rw [if_neg c8]
                  replace hQ := hQ.2 c8
                  refine ev_if_ne 109 dX2_promiseFault_78 (by decide) (fun h9 => absurd (by decide : ((0 : Int32) = 0)) h9) (fun _ => ?_)
                  refine ev_aload_n (ev_o 2 a) dX2_promiseFault_81 rfl rfl ?_
                  refine ev_iload_n (x0) dX2_promiseFault_82 rfl ?_
                  refine ev_fV mv_X2_deskOf 1 2 [ev_i x0] [] dX2_promiseFault_83 kw_492 rfl (by decide) rfl (by decide) (Nat.le_of_ble_eq_true rfl) (sp_X2_deskOf a x0) ?_ rfl
                  refine ev_aload (ev_o 0 ((a_X2_deskOf a x0) + 1)) dX2_promiseFault_86 rfl rfl ?_
                  refine ev_fV mv_X0_nextNumber 1 0 [] [ev_o 1 (a_X2_deskOf a x0)] dX2_promiseFault_88 kw_1099 rfl (by decide) rfl (by decide) (Nat.le_of_ble_eq_true rfl) (sp_X0_nextNumber ((a_X2_deskOf a x0) + 1)) ?_ rfl
                  refine ev_iconst (1) dX2_promiseFault_91 rfl ?_
                  refine ev_iadd dX2_promiseFault_92 ?_
                  refine ev_fV mv_X1_hasPromise 2 1 [ev_i (((S.1 ((a_X2_deskOf a x0) + 1) 6) + 1) + 1)] [] dX2_promiseFault_93 kw_1598 rfl (by decide) rfl (by decide) (Nat.le_of_ble_eq_true rfl) (sp_X1_hasPromise (a_X2_deskOf a x0) (((S.1 ((a_X2_deskOf a x0) + 1) 6) + 1) + 1)) ?_ rfl
                  by_cases c9 : (j_at (S.1 ((a_X2_deskOf a x0) + 8)) 61 (((S.1 ((a_X2_deskOf a x0) + 1) 6) + 1) + 1)) = (-1)
                  · rw [if_pos c9]
                    replace hQ := hQ.1 c9
                    refine ev_if_ne 109 dX2_promiseFault_96 (by decide) (fun h9 => absurd (by decide : ((0 : Int32) = 0)) h9) (fun _ => ?_)
                    refine ev_aload_n (ev_o 2 a) dX2_promiseFault_99 rfl rfl ?_
                    refine gf_2_2 dX2_promiseFault_100 kw_299 ?_
                    refine ev_fV mv_X6_isFull 1 6 [] [] dX2_promiseFault_103 kw_1540 rfl (by decide) rfl (by decide) (Nat.le_of_ble_eq_true rfl) (sp_X6_isFull (a + 19)) ?_ rfl
                    by_cases c10 : (S.1 (a + 19) 13) < 80
                    · rw [if_pos c10]
                      replace hQ := hQ.1 c10
                      refine ev_if_eq 111 dX2_promiseFault_106 (by decide) (fun _ => ?_) (fun h9 => absurd (by decide : ((0 : Int32) = 0)) h9)
                      refine ev_aload (ev_o 0 ((a_X2_deskOf a x0) + 1)) dX2_promiseFault_111 rfl rfl ?_
                      refine ev_iload_n (x2) dX2_promiseFault_113 rfl ?_
                      refine ev_fV mv_X0_ownerOn 2 0 [ev_i x2] [] dX2_promiseFault_114 kw_1544 rfl (by decide) rfl (by decide) (Nat.le_of_ble_eq_true rfl) (sp_X0_ownerOn ((a_X2_deskOf a x0) + 1) x2) ?_ rfl
                      refine ev_iconst (1) dX2_promiseFault_117 rfl ?_
                      refine ev_iload_n (x0) dX2_promiseFault_118 rfl ?_
                      refine ev_isub dX2_promiseFault_119 ?_
                      refine ev_icmp_ne 134 dX2_promiseFault_120 (by decide) (fun c11 => ?_) (fun c11 => ?_)
                      · replace hQ := hQ.2 c11
                        refine ev_iconst (3) dX2_promiseFault_134 rfl ?_
                        exact ev_ireturn .int dX2_promiseFault_135 rfl rfl hQ
                      · replace hQ := hQ.1 c11
                        refine ev_aload (ev_o 0 ((a_X2_deskOf a x0) + 1)) dX2_promiseFault_123 rfl rfl ?_
                        refine ev_iload_n (x2) dX2_promiseFault_125 rfl ?_
                        refine ev_iload (x3) dX2_promiseFault_126 rfl ?_
                        refine ev_cV mv_X0_canReach 3 0 0 [ev_i x2, ev_i x3] [] dX2_promiseFault_128 kw_1545 rfl (by decide) rfl (by decide) (by decide) (Nat.le_of_ble_eq_true rfl) hQ ?_ rfl
                        rintro o S1 ⟨v1_, rfl, hQ⟩
                        show ev_E g m_X2_promiseFault 5 0 131 [some (ev_o 2 a), some (ev_i x0), some (ev_i x1), some (ev_i x2), some (ev_i x3), some (ev_i x4), some (ev_i x5), some (ev_o 0 ((a_X2_deskOf a x0) + 1))] [ev_i (if v1_ = true then 1 else 0)] S1 Q
                        by_cases c12 : v1_ = true
                        · rw [if_pos c12]
                          replace hQ := hQ.1 c12
                          refine ev_if_ne 136 dX2_promiseFault_131 (by decide) (fun _ => ?_) (fun h9 => absurd h9 (by decide : ¬ ((1 : Int32) = 0)))
                          refine ev_aload_n (ev_o 2 a) dX2_promiseFault_136 rfl rfl ?_
                          refine gf_2_3 dX2_promiseFault_137 kw_300 ?_
                          refine ev_aload (ev_o 0 ((a_X2_deskOf a x0) + 1)) dX2_promiseFault_140 rfl rfl ?_
                          refine ev_cV mv_X0_copyFrom 2 0 0 [ev_o 0 ((a_X2_deskOf a x0) + 1)] [] dX2_promiseFault_142 kw_1599 rfl (by decide) rfl (by decide) (by decide) (Nat.le_of_ble_eq_true rfl) hQ ?_ rfl
                          rintro o S2 ⟨rfl, hQ⟩
                          show ev_E g m_X2_promiseFault 5 0 145 [some (ev_o 2 a), some (ev_i x0), some (ev_i x1), some (ev_i x2), some (ev_i x3), some (ev_i x4), some (ev_i x5), some (ev_o 0 ((a_X2_deskOf a x0) + 1))] [] S2 Q
                          refine ev_aload_n (ev_o 2 a) dX2_promiseFault_145 rfl rfl ?_
                          refine gf_2_3 dX2_promiseFault_146 kw_300 ?_
                          refine ev_iload_n (x2) dX2_promiseFault_149 rfl ?_
                          refine ev_iload (x3) dX2_promiseFault_150 rfl ?_
                          refine ev_fN ms_X9_moveOf 1 [ev_i x2, ev_i x3] [ev_o 0 (a + 36)] dX2_promiseFault_152 (List.mem_of_getElem? (i := 30) rfl) rfl (by decide) (Nat.le_of_ble_eq_true rfl) (sp_X9_moveOf x2 x3) ?_ rfl
                          refine ev_cV mv_X0_play 3 0 0 [ev_i ((x2 * 64) + x3)] [] dX2_promiseFault_155 kw_1600 rfl (by decide) rfl (by decide) (by decide) (Nat.le_of_ble_eq_true rfl) hQ ?_ rfl
                          rintro o S3 ⟨rfl, hQ⟩
                          show ev_E g m_X2_promiseFault 5 0 158 [some (ev_o 2 a), some (ev_i x0), some (ev_i x1), some (ev_i x2), some (ev_i x3), some (ev_i x4), some (ev_i x5), some (ev_o 0 ((a_X2_deskOf a x0) + 1))] [] S3 Q
                          refine ev_aload_n (ev_o 2 a) dX2_promiseFault_158 rfl rfl ?_
                          refine gf_2_3 dX2_promiseFault_159 kw_300 ?_
                          refine ev_fV mv_X0_isFinished 3 0 [] [] dX2_promiseFault_162 kw_1597 rfl (by decide) rfl (by decide) (Nat.le_of_ble_eq_true rfl) (sp_X0_isFinished (a + 36)) ?_ rfl
                          by_cases c13 : (t_X0_isFinished S3 (a + 36)) = true
                          · rw [if_pos c13]
                            replace hQ := hQ.1 c13
                            refine ev_if_ne 199 dX2_promiseFault_165 (by decide) (fun _ => ?_) (fun h9 => absurd h9 (by decide : ¬ ((1 : Int32) = 0)))
                            refine ev_iconst (3) dX2_promiseFault_199 rfl ?_
                            exact ev_ireturn .int dX2_promiseFault_200 rfl rfl hQ
                          · rw [if_neg c13]
                            replace hQ := hQ.2 c13
                            refine ev_if_ne 199 dX2_promiseFault_165 (by decide) (fun h9 => absurd (by decide : ((0 : Int32) = 0)) h9) (fun _ => ?_)
                            refine ev_aload_n (ev_o 2 a) dX2_promiseFault_168 rfl rfl ?_
                            refine gf_2_3 dX2_promiseFault_169 kw_300 ?_
                            refine ev_iload (x4) dX2_promiseFault_172 rfl ?_
                            refine ev_fV mv_X0_ownerOn 2 0 [ev_i x4] [] dX2_promiseFault_174 kw_1544 rfl (by decide) rfl (by decide) (Nat.le_of_ble_eq_true rfl) (sp_X0_ownerOn (a + 36) x4) ?_ rfl
                            refine ev_iload_n (x0) dX2_promiseFault_177 rfl ?_
                            refine ev_icmp_ne 199 dX2_promiseFault_178 (by decide) (fun c14 => ?_) (fun c14 => ?_)
                            · replace hQ := hQ.2 c14
                              refine ev_iconst (3) dX2_promiseFault_199 rfl ?_
                              exact ev_ireturn .int dX2_promiseFault_200 rfl rfl hQ
                            · replace hQ := hQ.1 c14
                              refine ev_aload_n (ev_o 2 a) dX2_promiseFault_181 rfl rfl ?_
                              refine gf_2_3 dX2_promiseFault_182 kw_300 ?_
                              refine ev_iload (x4) dX2_promiseFault_185 rfl ?_
                              refine ev_iload (x5) dX2_promiseFault_187 rfl ?_
                              refine ev_cV mv_X0_canReach 3 0 0 [ev_i x4, ev_i x5] [] dX2_promiseFault_189 kw_1545 rfl (by decide) rfl (by decide) (by decide) (Nat.le_of_ble_eq_true rfl) hQ ?_ rfl
                              rintro o S4 ⟨v4_, rfl, hQ⟩
                              show ev_E g m_X2_promiseFault 5 0 192 [some (ev_o 2 a), some (ev_i x0), some (ev_i x1), some (ev_i x2), some (ev_i x3), some (ev_i x4), some (ev_i x5), some (ev_o 0 ((a_X2_deskOf a x0) + 1))] [ev_i (if v4_ = true then 1 else 0)] S4 Q
                              by_cases c15 : v4_ = true
                              · rw [if_pos c15]
                                replace hQ := hQ.1 c15
                                refine ev_if_eq 199 dX2_promiseFault_192 (by decide) (fun h9 => absurd h9 (by decide : ¬ ((1 : Int32) = 0))) (fun _ => ?_)
                                refine ev_iconst (0) dX2_promiseFault_195 rfl ?_
                                refine ev_goto 200 dX2_promiseFault_196 (by decide) ?_
                                exact ev_ireturn .int dX2_promiseFault_200 rfl rfl hQ
                              · rw [if_neg c15]
                                replace hQ := hQ.2 c15
                                refine ev_if_eq 199 dX2_promiseFault_192 (by decide) (fun _ => ?_) (fun h9 => absurd (by decide : ((0 : Int32) = 0)) h9)
                                refine ev_iconst (3) dX2_promiseFault_199 rfl ?_
                                exact ev_ireturn .int dX2_promiseFault_200 rfl rfl hQ
                        · rw [if_neg c12]
                          replace hQ := hQ.2 c12
                          refine ev_if_ne 136 dX2_promiseFault_131 (by decide) (fun h9 => absurd (by decide : ((0 : Int32) = 0)) h9) (fun _ => ?_)
                          refine ev_iconst (3) dX2_promiseFault_134 rfl ?_
                          exact ev_ireturn .int dX2_promiseFault_135 rfl rfl hQ
                    · rw [if_neg c10]
                      replace hQ := hQ.2 c10
                      refine ev_if_eq 111 dX2_promiseFault_106 (by decide) (fun h9 => absurd h9 (by decide : ¬ ((1 : Int32) = 0))) (fun _ => ?_)
                      refine ev_iconst (2) dX2_promiseFault_109 rfl ?_
                      exact ev_ireturn .int dX2_promiseFault_110 rfl rfl hQ
                  · rw [if_neg c9]
                    replace hQ := hQ.2 c9
                    refine ev_if_ne 109 dX2_promiseFault_96 (by decide) (fun _ => ?_) (fun h9 => absurd h9 (by decide : ¬ ((1 : Int32) = 0)))
                    refine ev_iconst (2) dX2_promiseFault_109 rfl ?_
                    exact ev_ireturn .int dX2_promiseFault_110 rfl rfl hQ
            · rw [if_neg c6]
              replace hQ := hQ.2 c6
              refine ev_if_ne 55 dX2_promiseFault_50 (by decide) (fun h9 => absurd (by decide : ((0 : Int32) = 0)) h9) (fun _ => ?_)
              refine ev_iconst (1) dX2_promiseFault_53 rfl ?_
              exact ev_ireturn .int dX2_promiseFault_54 rfl rfl hQ
          · rw [if_neg c5]
            replace hQ := hQ.2 c5
            refine ev_if_eq 53 dX2_promiseFault_41 (by decide) (fun _ => ?_) (fun h9 => absurd (by decide : ((0 : Int32) = 0)) h9)
            refine ev_iconst (1) dX2_promiseFault_53 rfl ?_
            exact ev_ireturn .int dX2_promiseFault_54 rfl rfl hQ
        · rw [if_neg c4]
          replace hQ := hQ.2 c4
          refine ev_if_eq 53 dX2_promiseFault_32 (by decide) (fun _ => ?_) (fun h9 => absurd (by decide : ((0 : Int32) = 0)) h9)
          refine ev_iconst (1) dX2_promiseFault_53 rfl ?_
          exact ev_ireturn .int dX2_promiseFault_54 rfl rfl hQ
      · rw [if_neg c3]
        replace hQ := hQ.2 c3
        refine ev_if_eq 53 dX2_promiseFault_23 (by decide) (fun _ => ?_) (fun h9 => absurd (by decide : ((0 : Int32) = 0)) h9)
        refine ev_iconst (1) dX2_promiseFault_53 rfl ?_
        exact ev_ireturn .int dX2_promiseFault_54 rfl rfl hQ
    · rw [if_neg c2]
      replace hQ := hQ.2 c2
      refine ev_if_eq 53 dX2_promiseFault_15 (by decide) (fun _ => ?_) (fun h9 => absurd (by decide : ((0 : Int32) = 0)) h9)
      refine ev_iconst (1) dX2_promiseFault_53 rfl ?_
      exact ev_ireturn .int dX2_promiseFault_54 rfl rfl hQ
  · rw [if_neg c1]
    replace hQ := hQ.2 c1
    refine ev_if_eq 53 dX2_promiseFault_4 (by decide) (fun _ => ?_) (fun h9 => absurd (by decide : ((0 : Int32) = 0)) h9)
    refine ev_iconst (1) dX2_promiseFault_53 rfl ?_
    exact ev_ireturn .int dX2_promiseFault_54 rfl rfl hQ
