set_option maxHeartbeats 4000000 in
set_option maxRecDepth 100000 in
theorem sg_X7_lowest_0 {g : ev_G} {S : ev_S} {Q : ev_O → ev_S → Prop} (x0 : Int32) (hQ : (x0 = 100 → (
    Q (.inl (some (ev_i 1))) S)) ∧
  (¬ (x0 = 100) → (
    Q (.inl (some (ev_i 0))) S))) : ev_Cv g m_X7_lowest 1 0 [ev_i x0] S Q := by
  refine ev_enter (by decide) rfl rfl (Nat.le_of_ble_eq_true rfl) ?_
  show ev_E g m_X7_lowest 1 0 0 [some (ev_i x0)] [] S Q
  refine ev_iload_n (x0) dX7_lowest_0 rfl ?_
  refine ev_bipush (100) dX7_lowest_1 (by decide) ?_
  refine ev_icmp_ne 10 dX7_lowest_3 (by decide) (fun c1 => ?_) (fun c1 => ?_)
  · replace hQ := hQ.2 c1
    refine ev_iconst (0) dX7_lowest_10 rfl ?_
    exact ev_ireturn .int dX7_lowest_11 rfl rfl hQ
  · replace hQ := hQ.1 c1
    refine ev_iconst (1) dX7_lowest_6 rfl ?_
    refine ev_goto 11 dX7_lowest_7 (by decide) ?_
    exact ev_ireturn .int dX7_lowest_11 rfl rfl hQ
def f_X7_lowest (x0 : Int32) : Int32 := if x0 = 100 then (1) else (0)
set_option maxHeartbeats 4000000 in
set_option maxRecDepth 100000 in
theorem sp_X7_lowest {g : ev_G} {S : ev_S} (x0 : Int32)  : ev_Fn g m_X7_lowest 1 [ev_i x0] S (some (ev_i (f_X7_lowest x0))) S := by
  intro Q hQ
  refine sg_X7_lowest_0 x0 ?_
  unfold f_X7_lowest at hQ
  refine ⟨fun c1 => ?_, fun c1 => ?_⟩
  · rw [if_pos c1] at hQ
    exact hQ
  · rw [if_neg c1] at hQ
    exact hQ
set_option maxHeartbeats 4000000 in
set_option maxRecDepth 100000 in
theorem sg_X7_highest_0 {g : ev_G} {S : ev_S} {Q : ev_O → ev_S → Prop} (x0 : Int32) (hQ : (x0 = 100 → (
    Q (.inl (some (ev_i 60))) S)) ∧
  (¬ (x0 = 100) → (
    (x0 = 101 → (
      Q (.inl (some (ev_i 20))) S)) ∧
    (¬ (x0 = 101) → (
      (x0 = 102 → (
        Q (.inl (some (ev_i 20))) S)) ∧
      (¬ (x0 = 102) → (
        (x0 = 103 → (
          Q (.inl (some (ev_i 20))) S)) ∧
        (¬ (x0 = 103) → (
          (x0 = 104 → (
            Q (.inl (some (ev_i 9))) S)) ∧
          (¬ (x0 = 104) → (
            (x0 = 105 → (
              Q (.inl (some (ev_i 20))) S)) ∧
            (¬ (x0 = 105) → (
              (x0 = 106 → (
                Q (.inl (some (ev_i 20))) S)) ∧
              (¬ (x0 = 106) → (
                (x0 = 107 → (
                  Q (.inl (some (ev_i 20))) S)) ∧
                (¬ (x0 = 107) → (
                  (x0 = 108 → (
                    Q (.inl (some (ev_i 79))) S)) ∧
                  (¬ (x0 = 108) → (
                    (x0 = 109 → (
                      Q (.inl (some (ev_i 11))) S)) ∧
                    (¬ (x0 = 109) → (
                      (x0 = 110 → (
                        Q (.inl (some (ev_i 20))) S)) ∧
                      (¬ (x0 = 110) → (
                        (x0 = 111 → (
                          Q (.inl (some (ev_i 20))) S)) ∧
                        (¬ (x0 = 111) → (
                          (x0 = 112 → (
                            Q (.inl (some (ev_i 3))) S)) ∧
                          (¬ (x0 = 112) → (
                            (x0 = 113 → (
                              Q (.inl (some (ev_i 20))) S)) ∧
                            (¬ (x0 = 113) → (
                              (x0 = 114 → (
                                Q (.inl (some (ev_i 20))) S)) ∧
                              (¬ (x0 = 114) → (
                                (x0 = 115 → (
                                  Q (.inl (some (ev_i 63))) S)) ∧
                                (¬ (x0 = 115) → (
                                  (x0 = 116 → (
                                    Q (.inl (some (ev_i 20))) S)) ∧
                                  (¬ (x0 = 116) → (
                                    (x0 = 117 → (
                                      Q (.inl (some (ev_i 20))) S)) ∧
                                    (¬ (x0 = 117) → (
                                      (x0 = 118 → (
                                        Q (.inl (some (ev_i 20))) S)) ∧
                                      (¬ (x0 = 118) → (
                                        (x0 = 119 → (
                                          Q (.inl (some (ev_i 1))) S)) ∧
                                        (¬ (x0 = 119) → (
                                          Q (.inl (some (ev_i 20))) S))))))))))))))))))))))))))))))))))))))))) : ev_Cv g m_X7_highest 1 0 [ev_i x0] S Q := by
  refine ev_enter (by decide) rfl rfl (Nat.le_of_ble_eq_true rfl) ?_
  show ev_E g m_X7_highest 1 0 0 [some (ev_i x0)] [] S Q
  refine ev_iload_n (x0) dX7_highest_0 rfl ?_
  by_cases c1 : x0 = 100
  · replace hQ := hQ.1 c1
    refine ev_tableIn (off := 105) 106 dX7_highest_1 (by rw [c1]; decide) (by rw [c1]; decide) (by rw [c1]; rfl) (by decide) ?_
    refine ev_bipush (60) dX7_highest_106 (by decide) ?_
    exact ev_ireturn .int dX7_highest_108 rfl rfl hQ
  · replace hQ := hQ.2 c1
    by_cases c2 : x0 = 101
    · replace hQ := hQ.1 c2
      refine ev_tableIn (off := 114) 115 dX7_highest_1 (by rw [c2]; decide) (by rw [c2]; decide) (by rw [c2]; rfl) (by decide) ?_
      refine ev_bipush (20) dX7_highest_115 (by decide) ?_
      exact ev_ireturn .int dX7_highest_117 rfl rfl hQ
    · replace hQ := hQ.2 c2
      by_cases c3 : x0 = 102
      · replace hQ := hQ.1 c3
        refine ev_tableIn (off := 114) 115 dX7_highest_1 (by rw [c3]; decide) (by rw [c3]; decide) (by rw [c3]; rfl) (by decide) ?_
        refine ev_bipush (20) dX7_highest_115 (by decide) ?_
        exact ev_ireturn .int dX7_highest_117 rfl rfl hQ
      · replace hQ := hQ.2 c3
        by_cases c4 : x0 = 103
        · replace hQ := hQ.1 c4
          refine ev_tableIn (off := 114) 115 dX7_highest_1 (by rw [c4]; decide) (by rw [c4]; decide) (by rw [c4]; rfl) (by decide) ?_
          refine ev_bipush (20) dX7_highest_115 (by decide) ?_
          exact ev_ireturn .int dX7_highest_117 rfl rfl hQ
        · replace hQ := hQ.2 c4
          by_cases c5 : x0 = 104
          · replace hQ := hQ.1 c5
            refine ev_tableIn (off := 111) 112 dX7_highest_1 (by rw [c5]; decide) (by rw [c5]; decide) (by rw [c5]; rfl) (by decide) ?_
            refine ev_bipush (9) dX7_highest_112 (by decide) ?_
            exact ev_ireturn .int dX7_highest_114 rfl rfl hQ
          · replace hQ := hQ.2 c5
            by_cases c6 : x0 = 105
            · replace hQ := hQ.1 c6
              refine ev_tableIn (off := 114) 115 dX7_highest_1 (by rw [c6]; decide) (by rw [c6]; decide) (by rw [c6]; rfl) (by decide) ?_
              refine ev_bipush (20) dX7_highest_115 (by decide) ?_
              exact ev_ireturn .int dX7_highest_117 rfl rfl hQ
            · replace hQ := hQ.2 c6
              by_cases c7 : x0 = 106
              · replace hQ := hQ.1 c7
                refine ev_tableIn (off := 114) 115 dX7_highest_1 (by rw [c7]; decide) (by rw [c7]; decide) (by rw [c7]; rfl) (by decide) ?_
                refine ev_bipush (20) dX7_highest_115 (by decide) ?_
                exact ev_ireturn .int dX7_highest_117 rfl rfl hQ
              · replace hQ := hQ.2 c7
                by_cases c8 : x0 = 107
                · replace hQ := hQ.1 c8
                  refine ev_tableIn (off := 114) 115 dX7_highest_1 (by rw [c8]; decide) (by rw [c8]; decide) (by rw [c8]; rfl) (by decide) ?_
                  refine ev_bipush (20) dX7_highest_115 (by decide) ?_
                  exact ev_ireturn .int dX7_highest_117 rfl rfl hQ
                · replace hQ := hQ.2 c8
                  by_cases c9 : x0 = 108
                  · replace hQ := hQ.1 c9
                    refine ev_tableIn (off := 102) 103 dX7_highest_1 (by rw [c9]; decide) (by rw [c9]; decide) (by rw [c9]; rfl) (by decide) ?_
                    refine ev_bipush (79) dX7_highest_103 (by decide) ?_
                    exact ev_ireturn .int dX7_highest_105 rfl rfl hQ
                  · replace hQ := hQ.2 c9
                    by_cases c10 : x0 = 109
                    · replace hQ := hQ.1 c10
                      refine ev_tableIn (off := 108) 109 dX7_highest_1 (by rw [c10]; decide) (by rw [c10]; decide) (by rw [c10]; rfl) (by decide) ?_
                      refine ev_bipush (11) dX7_highest_109 (by decide) ?_
                      exact ev_ireturn .int dX7_highest_111 rfl rfl hQ
                    · replace hQ := hQ.2 c10
                      by_cases c11 : x0 = 110
                      · replace hQ := hQ.1 c11
                        refine ev_tableIn (off := 114) 115 dX7_highest_1 (by rw [c11]; decide) (by rw [c11]; decide) (by rw [c11]; rfl) (by decide) ?_
                        refine ev_bipush (20) dX7_highest_115 (by decide) ?_
                        exact ev_ireturn .int dX7_highest_117 rfl rfl hQ
                      · replace hQ := hQ.2 c11
                        by_cases c12 : x0 = 111
                        · replace hQ := hQ.1 c12
                          refine ev_tableIn (off := 114) 115 dX7_highest_1 (by rw [c12]; decide) (by rw [c12]; decide) (by rw [c12]; rfl) (by decide) ?_
                          refine ev_bipush (20) dX7_highest_115 (by decide) ?_
                          exact ev_ireturn .int dX7_highest_117 rfl rfl hQ
                        · replace hQ := hQ.2 c12
                          by_cases c13 : x0 = 112
                          · replace hQ := hQ.1 c13
                            refine ev_tableIn (off := 100) 101 dX7_highest_1 (by rw [c13]; decide) (by rw [c13]; decide) (by rw [c13]; rfl) (by decide) ?_
                            refine ev_iconst (3) dX7_highest_101 rfl ?_
                            exact ev_ireturn .int dX7_highest_102 rfl rfl hQ
                          · replace hQ := hQ.2 c13
                            by_cases c14 : x0 = 113
                            · replace hQ := hQ.1 c14
                              refine ev_tableIn (off := 114) 115 dX7_highest_1 (by rw [c14]; decide) (by rw [c14]; decide) (by rw [c14]; rfl) (by decide) ?_
                              refine ev_bipush (20) dX7_highest_115 (by decide) ?_
                              exact ev_ireturn .int dX7_highest_117 rfl rfl hQ
                            · replace hQ := hQ.2 c14
                              by_cases c15 : x0 = 114
                              · replace hQ := hQ.1 c15
                                refine ev_tableIn (off := 114) 115 dX7_highest_1 (by rw [c15]; decide) (by rw [c15]; decide) (by rw [c15]; rfl) (by decide) ?_
                                refine ev_bipush (20) dX7_highest_115 (by decide) ?_
                                exact ev_ireturn .int dX7_highest_117 rfl rfl hQ
                              · replace hQ := hQ.2 c15
                                by_cases c16 : x0 = 115
                                · replace hQ := hQ.1 c16
                                  refine ev_tableIn (off := 97) 98 dX7_highest_1 (by rw [c16]; decide) (by rw [c16]; decide) (by rw [c16]; rfl) (by decide) ?_
                                  refine ev_bipush (63) dX7_highest_98 (by decide) ?_
                                  exact ev_ireturn .int dX7_highest_100 rfl rfl hQ
                                · replace hQ := hQ.2 c16
                                  by_cases c17 : x0 = 116
                                  · replace hQ := hQ.1 c17
                                    refine ev_tableIn (off := 114) 115 dX7_highest_1 (by rw [c17]; decide) (by rw [c17]; decide) (by rw [c17]; rfl) (by decide) ?_
                                    refine ev_bipush (20) dX7_highest_115 (by decide) ?_
                                    exact ev_ireturn .int dX7_highest_117 rfl rfl hQ
                                  · replace hQ := hQ.2 c17
                                    by_cases c18 : x0 = 117
                                    · replace hQ := hQ.1 c18
                                      refine ev_tableIn (off := 114) 115 dX7_highest_1 (by rw [c18]; decide) (by rw [c18]; decide) (by rw [c18]; rfl) (by decide) ?_
                                      refine ev_bipush (20) dX7_highest_115 (by decide) ?_
                                      exact ev_ireturn .int dX7_highest_117 rfl rfl hQ
                                    · replace hQ := hQ.2 c18
                                      by_cases c19 : x0 = 118
                                      · replace hQ := hQ.1 c19
                                        refine ev_tableIn (off := 114) 115 dX7_highest_1 (by rw [c19]; decide) (by rw [c19]; decide) (by rw [c19]; rfl) (by decide) ?_
                                        refine ev_bipush (20) dX7_highest_115 (by decide) ?_
                                        exact ev_ireturn .int dX7_highest_117 rfl rfl hQ
                                      · replace hQ := hQ.2 c19
                                        by_cases c20 : x0 = 119
                                        · replace hQ := hQ.1 c20
                                          refine ev_tableIn (off := 95) 96 dX7_highest_1 (by rw [c20]; decide) (by rw [c20]; decide) (by rw [c20]; rfl) (by decide) ?_
                                          refine ev_iconst (1) dX7_highest_96 rfl ?_
                                          exact ev_ireturn .int dX7_highest_97 rfl rfl hQ
                                        · replace hQ := hQ.2 c20
                                          refine ev_tableOut 115 dX7_highest_1 (j_out0 (fun k h1 h2 h3 => by
                                              have h4 : k = 100 ∨ k = 101 ∨ k = 102 ∨ k = 103 ∨ k = 104 ∨ k = 105 ∨ k = 106 ∨ k = 107 ∨ k = 108 ∨ k = 109 ∨ k = 110 ∨ k = 111 ∨ k = 112 ∨ k = 113 ∨ k = 114 ∨ k = 115 ∨ k = 116 ∨ k = 117 ∨ k = 118 ∨ k = 119 := by omega
                                              rcases h4 with rfl | rfl | rfl | rfl | rfl | rfl | rfl | rfl | rfl | rfl | rfl | rfl | rfl | rfl | rfl | rfl | rfl | rfl | rfl | rfl
                                              · exact c1 (h3.trans (by decide))
                                              · exact c2 (h3.trans (by decide))
                                              · exact c3 (h3.trans (by decide))
                                              · exact c4 (h3.trans (by decide))
                                              · exact c5 (h3.trans (by decide))
                                              · exact c6 (h3.trans (by decide))
                                              · exact c7 (h3.trans (by decide))
                                              · exact c8 (h3.trans (by decide))
                                              · exact c9 (h3.trans (by decide))
                                              · exact c10 (h3.trans (by decide))
                                              · exact c11 (h3.trans (by decide))
                                              · exact c12 (h3.trans (by decide))
                                              · exact c13 (h3.trans (by decide))
                                              · exact c14 (h3.trans (by decide))
                                              · exact c15 (h3.trans (by decide))
                                              · exact c16 (h3.trans (by decide))
                                              · exact c17 (h3.trans (by decide))
                                              · exact c18 (h3.trans (by decide))
                                              · exact c19 (h3.trans (by decide))
                                              · exact c20 (h3.trans (by decide)))) (by decide) ?_
                                          refine ev_bipush (20) dX7_highest_115 (by decide) ?_
                                          exact ev_ireturn .int dX7_highest_117 rfl rfl hQ
set_option maxHeartbeats 4000000 in
set_option maxRecDepth 100000 in
theorem sg_X7_openBracket_0 {g : ev_G} {S : ev_S} {Q : ev_O → ev_S → Prop} (a : Nat) (b0 : Nat) (hQ : ((S.1 a 7) < 2 → (
    ev_Cv g m_X8_expectSign 4 0 [ev_o 8 b0, ev_i 40] S (fun o S1 => o = .inl none ∧ (
      ((S1.1 b0 7) = 0 → (
        ∀ S2 : ev_S, S2 = (j_put S1 (a + 5) 2 (S1.1 a 7) (S1.1 a 5)) → (
          ∀ S3 : ev_S, S3 = (ev_up S2 a 7 ((S2.1 a 7) + 1)) → (
            Q (.inl none) S3)))) ∧
      (¬ ((S1.1 b0 7) = 0) → (
        Q (.inl none) S1)))))) ∧
  (¬ ((S.1 a 7) < 2) → (
    ((t_X8_isSign S b0 40) = true → (
      ev_Cv g m_X8_fail 1 0 [ev_o 8 b0, ev_i 4] S (fun o S4 => o = .inl none ∧ (
        ev_Cv g m_X8_expectSign 4 0 [ev_o 8 b0, ev_i 40] S4 (fun o S5 => o = .inl none ∧ (
          ((S5.1 b0 7) = 0 → (
            ∀ S6 : ev_S, S6 = (j_put S5 (a + 5) 2 (S5.1 a 7) (S5.1 a 5)) → (
              ∀ S7 : ev_S, S7 = (ev_up S6 a 7 ((S6.1 a 7) + 1)) → (
                Q (.inl none) S7)))) ∧
          (¬ ((S5.1 b0 7) = 0) → (
            Q (.inl none) S5)))))))) ∧
    (¬ ((t_X8_isSign S b0 40) = true) → (
      ev_Cv g m_X8_expectSign 4 0 [ev_o 8 b0, ev_i 40] S (fun o S8 => o = .inl none ∧ (
        ((S8.1 b0 7) = 0 → (
          ∀ S9 : ev_S, S9 = (j_put S8 (a + 5) 2 (S8.1 a 7) (S8.1 a 5)) → (
            ∀ S10 : ev_S, S10 = (ev_up S9 a 7 ((S9.1 a 7) + 1)) → (
              Q (.inl none) S10)))) ∧
        (¬ ((S8.1 b0 7) = 0) → (
          Q (.inl none) S8))))))))) : ev_Cv g m_X7_openBracket 5 0 [ev_o 7 a, ev_o 8 b0] S Q := by
  refine ev_enter (by decide) rfl rfl (Nat.le_of_ble_eq_true rfl) ?_
  show ev_E g m_X7_openBracket 5 0 0 [some (ev_o 7 a), some (ev_o 8 b0)] [] S Q
  refine ev_aload_n (ev_o 7 a) dX7_openBracket_0 rfl rfl ?_
  refine gf_7_7 dX7_openBracket_1 kw_190 ?_
  refine ev_iconst (2) dX7_openBracket_4 rfl ?_
  refine ev_icmp_lt 22 dX7_openBracket_5 (by decide) (fun c1 => ?_) (fun c1 => ?_)
  · replace hQ := hQ.1 c1
    refine ev_aload_n (ev_o 8 b0) dX7_openBracket_22 rfl rfl ?_
    refine ev_bipush (40) dX7_openBracket_23 (by decide) ?_
    refine ev_cV mv_X8_expectSign 4 0 8 [ev_i 40] [] dX7_openBracket_25 kw_769 rfl (by decide) rfl (by decide) (by decide) (Nat.le_of_ble_eq_true rfl) hQ ?_ rfl
    rintro o S1 ⟨rfl, hQ⟩
    show ev_E g m_X7_openBracket 5 0 28 [some (ev_o 7 a), some (ev_o 8 b0)] [] S1 Q
    refine ev_aload_n (ev_o 8 b0) dX7_openBracket_28 rfl rfl ?_
    refine ev_fV mv_X8_hasError 1 8 [] [] dX7_openBracket_29 kw_754 rfl (by decide) rfl (by decide) (Nat.le_of_ble_eq_true rfl) (sp_X8_hasError b0) ?_ rfl
    by_cases c2 : (S1.1 b0 7) = 0
    · rw [if_pos c2]
      replace hQ := hQ.1 c2
      refine ev_if_ne 60 dX7_openBracket_32 (by decide) (fun h9 => absurd (by decide : ((0 : Int32) = 0)) h9) (fun _ => ?_)
      refine ev_aload_n (ev_o 7 a) dX7_openBracket_35 rfl rfl ?_
      refine gf_7_4 dX7_openBracket_36 kw_187 ?_
      refine ev_aload_n (ev_o 7 a) dX7_openBracket_39 rfl rfl ?_
      refine gf_7_7 dX7_openBracket_40 kw_190 ?_
      refine ev_aload_n (ev_o 7 a) dX7_openBracket_43 rfl rfl ?_
      refine gf_7_5 dX7_openBracket_44 kw_188 ?_
      refine ev_fNn ms_X9_put 1 [ev_y 2 (a + 5), ev_i (S1.1 a 7), ev_i (S1.1 a 5)] [] dX7_openBracket_47 (List.mem_of_getElem? (i := 20) rfl) rfl (by decide) (Nat.le_of_ble_eq_true rfl) (sp_X9_put 2 (a + 5) (S1.1 a 7) (S1.1 a 5)) ?_ rfl
      refine ev_sub hQ (fun S2 hS2 hQ => ?_)
      refine ev_E.goal (pc' := 50) (L' := [some (ev_o 7 a), some (ev_o 8 b0)]) (K' := []) (S' := S2) ?_ rfl rfl rfl hS2
      refine ev_aload_n (ev_o 7 a) dX7_openBracket_50 rfl rfl ?_
      refine ev_dup dX7_openBracket_51 rfl ?_
      refine gf_7_7 dX7_openBracket_52 kw_190 ?_
      refine ev_iconst (1) dX7_openBracket_55 rfl ?_
      refine ev_iadd dX7_openBracket_56 ?_
      refine pf_7_7 dX7_openBracket_57 kw_190 ?_
      refine ev_sub hQ (fun S3 hS3 hQ => ?_)
      refine ev_E.goal (pc' := 60) (L' := [some (ev_o 7 a), some (ev_o 8 b0)]) (K' := []) (S' := S3) ?_ rfl rfl rfl hS3
      exact ev_return dX7_openBracket_60 rfl hQ
    · rw [if_neg c2]
      replace hQ := hQ.2 c2
      refine ev_if_ne 60 dX7_openBracket_32 (by decide) (fun _ => ?_) (fun h9 => absurd h9 (by decide : ¬ ((1 : Int32) = 0)))
      exact ev_return dX7_openBracket_60 rfl hQ
  · replace hQ := hQ.2 c1
    refine ev_aload_n (ev_o 8 b0) dX7_openBracket_8 rfl rfl ?_
    refine ev_bipush (40) dX7_openBracket_9 (by decide) ?_
    refine ev_fV mv_X8_isSign 1 8 [ev_i 40] [] dX7_openBracket_11 kw_810 rfl (by decide) rfl (by decide) (Nat.le_of_ble_eq_true rfl) (sp_X8_isSign b0 40) ?_ rfl
    by_cases c3 : (t_X8_isSign S b0 40) = true
    · rw [if_pos c3]
      replace hQ := hQ.1 c3
      refine ev_if_eq 22 dX7_openBracket_14 (by decide) (fun h9 => absurd h9 (by decide : ¬ ((1 : Int32) = 0))) (fun _ => ?_)
      refine ev_aload_n (ev_o 8 b0) dX7_openBracket_17 rfl rfl ?_
      refine ev_iconst (4) dX7_openBracket_18 rfl ?_
      refine ev_cV mv_X8_fail 1 0 8 [ev_i 4] [] dX7_openBracket_19 kw_785 rfl (by decide) rfl (by decide) (by decide) (Nat.le_of_ble_eq_true rfl) hQ ?_ rfl
      rintro o S4 ⟨rfl, hQ⟩
      show ev_E g m_X7_openBracket 5 0 22 [some (ev_o 7 a), some (ev_o 8 b0)] [] S4 Q
      refine ev_aload_n (ev_o 8 b0) dX7_openBracket_22 rfl rfl ?_
      refine ev_bipush (40) dX7_openBracket_23 (by decide) ?_
      refine ev_cV mv_X8_expectSign 4 0 8 [ev_i 40] [] dX7_openBracket_25 kw_769 rfl (by decide) rfl (by decide) (by decide) (Nat.le_of_ble_eq_true rfl) hQ ?_ rfl
      rintro o S5 ⟨rfl, hQ⟩
      show ev_E g m_X7_openBracket 5 0 28 [some (ev_o 7 a), some (ev_o 8 b0)] [] S5 Q
      refine ev_aload_n (ev_o 8 b0) dX7_openBracket_28 rfl rfl ?_
      refine ev_fV mv_X8_hasError 1 8 [] [] dX7_openBracket_29 kw_754 rfl (by decide) rfl (by decide) (Nat.le_of_ble_eq_true rfl) (sp_X8_hasError b0) ?_ rfl
      by_cases c4 : (S5.1 b0 7) = 0
      · rw [if_pos c4]
        replace hQ := hQ.1 c4
        refine ev_if_ne 60 dX7_openBracket_32 (by decide) (fun h9 => absurd (by decide : ((0 : Int32) = 0)) h9) (fun _ => ?_)
        refine ev_aload_n (ev_o 7 a) dX7_openBracket_35 rfl rfl ?_
        refine gf_7_4 dX7_openBracket_36 kw_187 ?_
        refine ev_aload_n (ev_o 7 a) dX7_openBracket_39 rfl rfl ?_
        refine gf_7_7 dX7_openBracket_40 kw_190 ?_
        refine ev_aload_n (ev_o 7 a) dX7_openBracket_43 rfl rfl ?_
        refine gf_7_5 dX7_openBracket_44 kw_188 ?_
        refine ev_fNn ms_X9_put 1 [ev_y 2 (a + 5), ev_i (S5.1 a 7), ev_i (S5.1 a 5)] [] dX7_openBracket_47 (List.mem_of_getElem? (i := 20) rfl) rfl (by decide) (Nat.le_of_ble_eq_true rfl) (sp_X9_put 2 (a + 5) (S5.1 a 7) (S5.1 a 5)) ?_ rfl
        refine ev_sub hQ (fun S6 hS6 hQ => ?_)
        refine ev_E.goal (pc' := 50) (L' := [some (ev_o 7 a), some (ev_o 8 b0)]) (K' := []) (S' := S6) ?_ rfl rfl rfl hS6
        refine ev_aload_n (ev_o 7 a) dX7_openBracket_50 rfl rfl ?_
        refine ev_dup dX7_openBracket_51 rfl ?_
        refine gf_7_7 dX7_openBracket_52 kw_190 ?_
        refine ev_iconst (1) dX7_openBracket_55 rfl ?_
        refine ev_iadd dX7_openBracket_56 ?_
        refine pf_7_7 dX7_openBracket_57 kw_190 ?_
        refine ev_sub hQ (fun S7 hS7 hQ => ?_)
        refine ev_E.goal (pc' := 60) (L' := [some (ev_o 7 a), some (ev_o 8 b0)]) (K' := []) (S' := S7) ?_ rfl rfl rfl hS7
        exact ev_return dX7_openBracket_60 rfl hQ
      · rw [if_neg c4]
        replace hQ := hQ.2 c4
        refine ev_if_ne 60 dX7_openBracket_32 (by decide) (fun _ => ?_) (fun h9 => absurd h9 (by decide : ¬ ((1 : Int32) = 0)))
        exact ev_return dX7_openBracket_60 rfl hQ
    · rw [if_neg c3]
      replace hQ := hQ.2 c3
      refine ev_if_eq 22 dX7_openBracket_14 (by decide) (fun _ => ?_) (fun h9 => absurd (by decide : ((0 : Int32) = 0)) h9)
      refine ev_aload_n (ev_o 8 b0) dX7_openBracket_22 rfl rfl ?_
      refine ev_bipush (40) dX7_openBracket_23 (by decide) ?_
      refine ev_cV mv_X8_expectSign 4 0 8 [ev_i 40] [] dX7_openBracket_25 kw_769 rfl (by decide) rfl (by decide) (by decide) (Nat.le_of_ble_eq_true rfl) hQ ?_ rfl
      rintro o S8 ⟨rfl, hQ⟩
      show ev_E g m_X7_openBracket 5 0 28 [some (ev_o 7 a), some (ev_o 8 b0)] [] S8 Q
      refine ev_aload_n (ev_o 8 b0) dX7_openBracket_28 rfl rfl ?_
      refine ev_fV mv_X8_hasError 1 8 [] [] dX7_openBracket_29 kw_754 rfl (by decide) rfl (by decide) (Nat.le_of_ble_eq_true rfl) (sp_X8_hasError b0) ?_ rfl
      by_cases c5 : (S8.1 b0 7) = 0
      · rw [if_pos c5]
        replace hQ := hQ.1 c5
        refine ev_if_ne 60 dX7_openBracket_32 (by decide) (fun h9 => absurd (by decide : ((0 : Int32) = 0)) h9) (fun _ => ?_)
        refine ev_aload_n (ev_o 7 a) dX7_openBracket_35 rfl rfl ?_
        refine gf_7_4 dX7_openBracket_36 kw_187 ?_
        refine ev_aload_n (ev_o 7 a) dX7_openBracket_39 rfl rfl ?_
        refine gf_7_7 dX7_openBracket_40 kw_190 ?_
        refine ev_aload_n (ev_o 7 a) dX7_openBracket_43 rfl rfl ?_
        refine gf_7_5 dX7_openBracket_44 kw_188 ?_
        refine ev_fNn ms_X9_put 1 [ev_y 2 (a + 5), ev_i (S8.1 a 7), ev_i (S8.1 a 5)] [] dX7_openBracket_47 (List.mem_of_getElem? (i := 20) rfl) rfl (by decide) (Nat.le_of_ble_eq_true rfl) (sp_X9_put 2 (a + 5) (S8.1 a 7) (S8.1 a 5)) ?_ rfl
        refine ev_sub hQ (fun S9 hS9 hQ => ?_)
        refine ev_E.goal (pc' := 50) (L' := [some (ev_o 7 a), some (ev_o 8 b0)]) (K' := []) (S' := S9) ?_ rfl rfl rfl hS9
        refine ev_aload_n (ev_o 7 a) dX7_openBracket_50 rfl rfl ?_
        refine ev_dup dX7_openBracket_51 rfl ?_
        refine gf_7_7 dX7_openBracket_52 kw_190 ?_
        refine ev_iconst (1) dX7_openBracket_55 rfl ?_
        refine ev_iadd dX7_openBracket_56 ?_
        refine pf_7_7 dX7_openBracket_57 kw_190 ?_
        refine ev_sub hQ (fun S10 hS10 hQ => ?_)
        refine ev_E.goal (pc' := 60) (L' := [some (ev_o 7 a), some (ev_o 8 b0)]) (K' := []) (S' := S10) ?_ rfl rfl rfl hS10
        exact ev_return dX7_openBracket_60 rfl hQ
      · rw [if_neg c5]
        replace hQ := hQ.2 c5
        refine ev_if_ne 60 dX7_openBracket_32 (by decide) (fun _ => ?_) (fun h9 => absurd h9 (by decide : ¬ ((1 : Int32) = 0)))
        exact ev_return dX7_openBracket_60 rfl hQ
set_option maxHeartbeats 4000000 in
set_option maxRecDepth 100000 in
theorem sg_X7_readCommand_0 {g : ev_G} {S : ev_S} {Q : ev_O → ev_S → Prop} (a : Nat) (b0 : Nat) (hQ : ev_Cv g m_X7_commandOf 6 0 [ev_o 8 b0] S (fun o S1 => ∃ v1_ : Int32, o = .inl (some (ev_i v1_)) ∧ (
    (v1_ = (-1) → (
      ev_Cv g m_X8_fail 1 0 [ev_o 8 b0, ev_i 1] S1 (fun o S5 => o = .inl none ∧ (
        Q (.inl none) S5)))) ∧
    (¬ (v1_ = (-1)) → (
      ((S1.1 a 6) < 30 → (
        ∀ S2 : ev_S, S2 = (ev_up S1 a 6 ((S1.1 a 6) + 1)) → (
          ev_Cv g m_X8_step 3 0 [ev_o 8 b0] S2 (fun o S3 => o = .inl none ∧ (
            (v1_ = 1 → (
              ev_E g m_X7_readCommand 7 0 53 [some (ev_o 7 a), some (ev_o 8 b0), some (ev_i v1_), some (ev_x 1 12), some (ev_i 0), none] [] S3 Q)) ∧
            (¬ (v1_ = 1) → (
              (v1_ = 2 → (
                ev_E g m_X7_readCommand 7 0 53 [some (ev_o 7 a), some (ev_o 8 b0), some (ev_i v1_), some (ev_x 1 13), some (ev_i 0), none] [] S3 Q)) ∧
              (¬ (v1_ = 2) → (
                (v1_ = 3 → (
                  ev_E g m_X7_readCommand 7 0 53 [some (ev_o 7 a), some (ev_o 8 b0), some (ev_i v1_), some (ev_x 1 14), some (ev_i 0), none] [] S3 Q)) ∧
                (¬ (v1_ = 3) → (
                  (v1_ = 4 → (
                    ev_E g m_X7_readCommand 7 0 53 [some (ev_o 7 a), some (ev_o 8 b0), some (ev_i v1_), some (ev_x 1 15), some (ev_i 0), none] [] S3 Q)) ∧
                  (¬ (v1_ = 4) → (
                    (v1_ = 5 → (
                      ev_E g m_X7_readCommand 7 0 53 [some (ev_o 7 a), some (ev_o 8 b0), some (ev_i v1_), some (ev_x 1 16), some (ev_i 0), none] [] S3 Q)) ∧
                    (¬ (v1_ = 5) → (
                      (v1_ = 6 → (
                        ev_E g m_X7_readCommand 7 0 53 [some (ev_o 7 a), some (ev_o 8 b0), some (ev_i v1_), some (ev_x 1 17), some (ev_i 0), none] [] S3 Q)) ∧
                      (¬ (v1_ = 6) → (
                        ev_E g m_X7_readCommand 7 0 53 [some (ev_o 7 a), some (ev_o 8 b0), some (ev_i v1_), some (ev_x 1 18), some (ev_i 0), none] [] S3 Q))))))))))))))))) ∧
      (¬ ((S1.1 a 6) < 30) → (
        ev_Cv g m_X8_fail 1 0 [ev_o 8 b0, ev_i 4] S1 (fun o S4 => o = .inl none ∧ (
          Q (.inl none) S4))))))))) : ev_Cv g m_X7_readCommand 7 0 [ev_o 7 a, ev_o 8 b0] S Q := by
  refine ev_enter (by decide) rfl rfl (Nat.le_of_ble_eq_true rfl) ?_
  show ev_E g m_X7_readCommand 7 0 0 [some (ev_o 7 a), some (ev_o 8 b0), none, none, none, none] [] S Q
  refine ev_aload_n (ev_o 8 b0) dX7_readCommand_0 rfl rfl ?_
  refine ev_cS ms_X7_commandOf 6 0 [ev_o 8 b0] [] dX7_readCommand_1 kw_774 rfl (by decide) (by decide) (Nat.le_of_ble_eq_true rfl) hQ ?_ rfl
  rintro o S1 ⟨v1_, rfl, hQ⟩
  show ev_E g m_X7_readCommand 7 0 4 [some (ev_o 7 a), some (ev_o 8 b0), none, none, none, none] [ev_i v1_] S1 Q
  refine ev_istore_n dX7_readCommand_4 (Nat.le_of_ble_eq_true rfl) (ev_hw rfl) ?_
  show ev_E g m_X7_readCommand 7 0 5 [some (ev_o 7 a), some (ev_o 8 b0), some (ev_i v1_), none, none, none] [] S1 Q
  refine ev_iload_n (v1_) dX7_readCommand_5 rfl ?_
  refine ev_iconst (-1) dX7_readCommand_6 rfl ?_
  refine ev_icmp_ne 16 dX7_readCommand_7 (by decide) (fun c1 => ?_) (fun c1 => ?_)
  · replace hQ := hQ.2 c1
    refine ev_aload_n (ev_o 7 a) dX7_readCommand_16 rfl rfl ?_
    refine gf_7_6 dX7_readCommand_17 kw_189 ?_
    refine ev_bipush (30) dX7_readCommand_20 (by decide) ?_
    refine ev_icmp_lt 31 dX7_readCommand_22 (by decide) (fun c2 => ?_) (fun c2 => ?_)
    · replace hQ := hQ.1 c2
      refine ev_aload_n (ev_o 7 a) dX7_readCommand_31 rfl rfl ?_
      refine ev_dup dX7_readCommand_32 rfl ?_
      refine gf_7_6 dX7_readCommand_33 kw_189 ?_
      refine ev_iconst (1) dX7_readCommand_36 rfl ?_
      refine ev_iadd dX7_readCommand_37 ?_
      refine pf_7_6 dX7_readCommand_38 kw_189 ?_
      refine ev_sub hQ (fun S2 hS2 hQ => ?_)
      refine ev_E.goal (pc' := 41) (L' := [some (ev_o 7 a), some (ev_o 8 b0), some (ev_i v1_), none, none, none]) (K' := []) (S' := S2) ?_ rfl rfl rfl hS2
      refine ev_aload_n (ev_o 8 b0) dX7_readCommand_41 rfl rfl ?_
      refine ev_cV mv_X8_step 3 0 8 [] [] dX7_readCommand_42 kw_786 rfl (by decide) rfl (by decide) (by decide) (Nat.le_of_ble_eq_true rfl) hQ ?_ rfl
      rintro o S3 ⟨rfl, hQ⟩
      show ev_E g m_X7_readCommand 7 0 45 [some (ev_o 7 a), some (ev_o 8 b0), some (ev_i v1_), none, none, none] [] S3 Q
      refine ev_iload_n (v1_) dX7_readCommand_45 rfl ?_
      refine ev_cS ms_X7_argumentsOf 1 0 [ev_i v1_] [] dX7_readCommand_46 kw_787 rfl (by decide) (by decide) (Nat.le_of_ble_eq_true rfl) (Q' := fun o z => ev_After g m_X7_readCommand 7 (0 - 0) 46 [some (ev_o 7 a), some (ev_o 8 b0), some (ev_i v1_), none, none, none] [] z Q o) (sg_X7_argumentsOf_0 v1_ ?_) (fun o z h => h) rfl
      refine ⟨fun c3 => ?_, fun c3 => ?_⟩
      · replace hQ := hQ.1 c3
        show ev_E g m_X7_readCommand 7 0 49 [some (ev_o 7 a), some (ev_o 8 b0), some (ev_i v1_), none, none, none] [ev_x 1 12] S3 Q
        refine ev_astore_n dX7_readCommand_49 rfl (Nat.le_of_ble_eq_true rfl) (ev_hw rfl) ?_
        show ev_E g m_X7_readCommand 7 0 50 [some (ev_o 7 a), some (ev_o 8 b0), some (ev_i v1_), some (ev_x 1 12), none, none] [] S3 Q
        refine ev_iconst (0) dX7_readCommand_50 rfl ?_
        refine ev_istore dX7_readCommand_51 (Nat.le_of_ble_eq_true rfl) (ev_hw rfl) ?_
        show ev_E g m_X7_readCommand 7 0 53 [some (ev_o 7 a), some (ev_o 8 b0), some (ev_i v1_), some (ev_x 1 12), some (ev_i 0), none] [] S3 Q
        exact hQ
      · replace hQ := hQ.2 c3
        refine ⟨fun c4 => ?_, fun c4 => ?_⟩
        · replace hQ := hQ.1 c4
          show ev_E g m_X7_readCommand 7 0 49 [some (ev_o 7 a), some (ev_o 8 b0), some (ev_i v1_), none, none, none] [ev_x 1 13] S3 Q
          refine ev_astore_n dX7_readCommand_49 rfl (Nat.le_of_ble_eq_true rfl) (ev_hw rfl) ?_
          show ev_E g m_X7_readCommand 7 0 50 [some (ev_o 7 a), some (ev_o 8 b0), some (ev_i v1_), some (ev_x 1 13), none, none] [] S3 Q
          refine ev_iconst (0) dX7_readCommand_50 rfl ?_
          refine ev_istore dX7_readCommand_51 (Nat.le_of_ble_eq_true rfl) (ev_hw rfl) ?_
          show ev_E g m_X7_readCommand 7 0 53 [some (ev_o 7 a), some (ev_o 8 b0), some (ev_i v1_), some (ev_x 1 13), some (ev_i 0), none] [] S3 Q
          exact hQ
        · replace hQ := hQ.2 c4
          refine ⟨fun c5 => ?_, fun c5 => ?_⟩
          · replace hQ := hQ.1 c5
            show ev_E g m_X7_readCommand 7 0 49 [some (ev_o 7 a), some (ev_o 8 b0), some (ev_i v1_), none, none, none] [ev_x 1 14] S3 Q
            refine ev_astore_n dX7_readCommand_49 rfl (Nat.le_of_ble_eq_true rfl) (ev_hw rfl) ?_
            show ev_E g m_X7_readCommand 7 0 50 [some (ev_o 7 a), some (ev_o 8 b0), some (ev_i v1_), some (ev_x 1 14), none, none] [] S3 Q
            refine ev_iconst (0) dX7_readCommand_50 rfl ?_
            refine ev_istore dX7_readCommand_51 (Nat.le_of_ble_eq_true rfl) (ev_hw rfl) ?_
            show ev_E g m_X7_readCommand 7 0 53 [some (ev_o 7 a), some (ev_o 8 b0), some (ev_i v1_), some (ev_x 1 14), some (ev_i 0), none] [] S3 Q
            exact hQ
          · replace hQ := hQ.2 c5
            refine ⟨fun c6 => ?_, fun c6 => ?_⟩
            · replace hQ := hQ.1 c6
              show ev_E g m_X7_readCommand 7 0 49 [some (ev_o 7 a), some (ev_o 8 b0), some (ev_i v1_), none, none, none] [ev_x 1 15] S3 Q
              refine ev_astore_n dX7_readCommand_49 rfl (Nat.le_of_ble_eq_true rfl) (ev_hw rfl) ?_
              show ev_E g m_X7_readCommand 7 0 50 [some (ev_o 7 a), some (ev_o 8 b0), some (ev_i v1_), some (ev_x 1 15), none, none] [] S3 Q
              refine ev_iconst (0) dX7_readCommand_50 rfl ?_
              refine ev_istore dX7_readCommand_51 (Nat.le_of_ble_eq_true rfl) (ev_hw rfl) ?_
              show ev_E g m_X7_readCommand 7 0 53 [some (ev_o 7 a), some (ev_o 8 b0), some (ev_i v1_), some (ev_x 1 15), some (ev_i 0), none] [] S3 Q
              exact hQ
            · replace hQ := hQ.2 c6
              refine ⟨fun c7 => ?_, fun c7 => ?_⟩
              · replace hQ := hQ.1 c7
                show ev_E g m_X7_readCommand 7 0 49 [some (ev_o 7 a), some (ev_o 8 b0), some (ev_i v1_), none, none, none] [ev_x 1 16] S3 Q
                refine ev_astore_n dX7_readCommand_49 rfl (Nat.le_of_ble_eq_true rfl) (ev_hw rfl) ?_
                show ev_E g m_X7_readCommand 7 0 50 [some (ev_o 7 a), some (ev_o 8 b0), some (ev_i v1_), some (ev_x 1 16), none, none] [] S3 Q
                refine ev_iconst (0) dX7_readCommand_50 rfl ?_
                refine ev_istore dX7_readCommand_51 (Nat.le_of_ble_eq_true rfl) (ev_hw rfl) ?_
                show ev_E g m_X7_readCommand 7 0 53 [some (ev_o 7 a), some (ev_o 8 b0), some (ev_i v1_), some (ev_x 1 16), some (ev_i 0), none] [] S3 Q
                exact hQ
              · replace hQ := hQ.2 c7
                refine ⟨fun c8 => ?_, fun c8 => ?_⟩
                · replace hQ := hQ.1 c8
                  show ev_E g m_X7_readCommand 7 0 49 [some (ev_o 7 a), some (ev_o 8 b0), some (ev_i v1_), none, none, none] [ev_x 1 17] S3 Q
                  refine ev_astore_n dX7_readCommand_49 rfl (Nat.le_of_ble_eq_true rfl) (ev_hw rfl) ?_
                  show ev_E g m_X7_readCommand 7 0 50 [some (ev_o 7 a), some (ev_o 8 b0), some (ev_i v1_), some (ev_x 1 17), none, none] [] S3 Q
                  refine ev_iconst (0) dX7_readCommand_50 rfl ?_
                  refine ev_istore dX7_readCommand_51 (Nat.le_of_ble_eq_true rfl) (ev_hw rfl) ?_
                  show ev_E g m_X7_readCommand 7 0 53 [some (ev_o 7 a), some (ev_o 8 b0), some (ev_i v1_), some (ev_x 1 17), some (ev_i 0), none] [] S3 Q
                  exact hQ
                · replace hQ := hQ.2 c8
                  show ev_E g m_X7_readCommand 7 0 49 [some (ev_o 7 a), some (ev_o 8 b0), some (ev_i v1_), none, none, none] [ev_x 1 18] S3 Q
                  refine ev_astore_n dX7_readCommand_49 rfl (Nat.le_of_ble_eq_true rfl) (ev_hw rfl) ?_
                  show ev_E g m_X7_readCommand 7 0 50 [some (ev_o 7 a), some (ev_o 8 b0), some (ev_i v1_), some (ev_x 1 18), none, none] [] S3 Q
                  refine ev_iconst (0) dX7_readCommand_50 rfl ?_
                  refine ev_istore dX7_readCommand_51 (Nat.le_of_ble_eq_true rfl) (ev_hw rfl) ?_
                  show ev_E g m_X7_readCommand 7 0 53 [some (ev_o 7 a), some (ev_o 8 b0), some (ev_i v1_), some (ev_x 1 18), some (ev_i 0), none] [] S3 Q
                  exact hQ
    · replace hQ := hQ.2 c2
      refine ev_aload_n (ev_o 8 b0) dX7_readCommand_25 rfl rfl ?_
      refine ev_iconst (4) dX7_readCommand_26 rfl ?_
      refine ev_cV mv_X8_fail 1 0 8 [ev_i 4] [] dX7_readCommand_27 kw_785 rfl (by decide) rfl (by decide) (by decide) (Nat.le_of_ble_eq_true rfl) hQ ?_ rfl
      rintro o S4 ⟨rfl, hQ⟩
      show ev_E g m_X7_readCommand 7 0 30 [some (ev_o 7 a), some (ev_o 8 b0), some (ev_i v1_), none, none, none] [] S4 Q
      exact ev_return dX7_readCommand_30 rfl hQ
  · replace hQ := hQ.1 c1
    refine ev_aload_n (ev_o 8 b0) dX7_readCommand_10 rfl rfl ?_
    refine ev_iconst (1) dX7_readCommand_11 rfl ?_
    refine ev_cV mv_X8_fail 1 0 8 [ev_i 1] [] dX7_readCommand_12 kw_785 rfl (by decide) rfl (by decide) (by decide) (Nat.le_of_ble_eq_true rfl) hQ ?_ rfl
    rintro o S5 ⟨rfl, hQ⟩
    show ev_E g m_X7_readCommand 7 0 15 [some (ev_o 7 a), some (ev_o 8 b0), some (ev_i v1_), none, none, none] [] S5 Q
    exact ev_return dX7_readCommand_15 rfl hQ
set_option maxHeartbeats 4000000 in
set_option maxRecDepth 100000 in
theorem sg_X7_readCommand_53 {g : ev_G} {S : ev_S} {Q : ev_O → ev_S → Prop} (a : Nat) (b0 : Nat) (u2 : Int32) (w3 : Nat) (u4 : Int32) (hQ : ((j_ishr (Int32.ofNat (ev_le.getD w3 0)) 0) ≤ u4 → (
    (u2 = 7 → (
      ev_Cv g m_X7_openBracket 5 0 [ev_o 7 a, ev_o 8 b0] S (fun o S4 => o = .inl none ∧ (
        ∀ S5 : ev_S, S5 = (j_put S4 (a + 1) 60 (S4.1 a 5) u2) → (
          ∀ S6 : ev_S, S6 = (ev_up S5 a 5 ((S5.1 a 5) + 1)) → (
            Q (.inl none) S6)))))) ∧
    (¬ (u2 = 7) → (
      ev_Cv g m_X8_expectSign 4 0 [ev_o 8 b0, ev_i 59] S (fun o S1 => o = .inl none ∧ (
        ∀ S2 : ev_S, S2 = (j_put S1 (a + 1) 60 (S1.1 a 5) u2) → (
          ∀ S3 : ev_S, S3 = (ev_up S2 a 5 ((S2.1 a 5) + 1)) → (
            Q (.inl none) S3)))))))) ∧
  (¬ ((j_ishr (Int32.ofNat (ev_le.getD w3 0)) 0) ≤ u4) → (
    ((u4 < 0) → False) ∧ (
      (¬ (u4 < 0) → ¬ (u4 < (Int32.ofNat (ev_le.getD w3 0))) → False) ∧ (
        (vp_in u4 (ev_le.getD w3 0)) ∧ (
          (narrow .char (.int (j_i2c ((j_byte w3 u4) &&& 255))) = .int (j_i2c ((j_byte w3 u4) &&& 255))) ∧ (
            ev_Cv g m_X7_highest 1 0 [ev_i (j_i2c ((j_byte w3 u4) &&& 255))] S (fun o S7 => ∃ v3_ : Int32, o = .inl (some (ev_i v3_)) ∧ (
              ev_Cv g m_X8_number 4 0 [ev_o 8 b0, ev_i (f_X7_lowest (j_i2c ((j_byte w3 u4) &&& 255))), ev_i v3_] S7 (fun o S8 => ∃ v4_ : Int32, o = .inl (some (ev_i v4_)) ∧ (
                ∀ S9 : ev_S, S9 = (j_put S8 (a + 2) 360 (((S.1 a 5) * 6) + u4) v4_) → (
                  ev_E g m_X7_readCommand 7 0 53 [some (ev_o 7 a), some (ev_o 8 b0), some (ev_i u2), some (ev_x 1 w3), some (ev_i (u4 + 1)), none] [] S9 Q)))))))))))) : ev_E g m_X7_readCommand 7 0 53 [some (ev_o 7 a), some (ev_o 8 b0), some (ev_i u2), some (ev_x 1 w3), some (ev_i u4), none] [] S Q := by
  refine ev_iload (u4) dX7_readCommand_53 rfl ?_
  refine ev_aload_n (ev_x 1 w3) dX7_readCommand_55 rfl rfl ?_
  refine ev_fK mv_J0_length_8abf5 2 [] [ev_i u4] dX7_readCommand_56 kw_797 rfl (by decide) (Nat.le_of_ble_eq_true rfl) (sp_J0_length_8abf5 w3) ?_ rfl
  refine ev_icmp_ge 107 dX7_readCommand_59 (by decide) (fun c1 => ?_) (fun c1 => ?_)
  · replace hQ := hQ.1 c1
    refine ev_iload_n (u2) dX7_readCommand_107 rfl ?_
    refine ev_bipush (7) dX7_readCommand_108 (by decide) ?_
    refine ev_icmp_ne 121 dX7_readCommand_110 (by decide) (fun c2 => ?_) (fun c2 => ?_)
    · replace hQ := hQ.2 c2
      refine ev_aload_n (ev_o 8 b0) dX7_readCommand_121 rfl rfl ?_
      refine ev_bipush (59) dX7_readCommand_122 (by decide) ?_
      refine ev_cV mv_X8_expectSign 4 0 8 [ev_i 59] [] dX7_readCommand_124 kw_769 rfl (by decide) rfl (by decide) (by decide) (Nat.le_of_ble_eq_true rfl) hQ ?_ rfl
      rintro o S1 ⟨rfl, hQ⟩
      show ev_E g m_X7_readCommand 7 0 127 [some (ev_o 7 a), some (ev_o 8 b0), some (ev_i u2), some (ev_x 1 w3), some (ev_i u4), none] [] S1 Q
      refine ev_aload_n (ev_o 7 a) dX7_readCommand_127 rfl rfl ?_
      refine gf_7_0 dX7_readCommand_128 kw_183 ?_
      refine ev_aload_n (ev_o 7 a) dX7_readCommand_131 rfl rfl ?_
      refine gf_7_5 dX7_readCommand_132 kw_188 ?_
      refine ev_iload_n (u2) dX7_readCommand_135 rfl ?_
      refine ev_fNn ms_X9_put 1 [ev_y 60 (a + 1), ev_i (S1.1 a 5), ev_i u2] [] dX7_readCommand_136 (List.mem_of_getElem? (i := 20) rfl) rfl (by decide) (Nat.le_of_ble_eq_true rfl) (sp_X9_put 60 (a + 1) (S1.1 a 5) u2) ?_ rfl
      refine ev_sub hQ (fun S2 hS2 hQ => ?_)
      refine ev_E.goal (pc' := 139) (L' := [some (ev_o 7 a), some (ev_o 8 b0), some (ev_i u2), some (ev_x 1 w3), some (ev_i u4), none]) (K' := []) (S' := S2) ?_ rfl rfl rfl hS2
      refine ev_aload_n (ev_o 7 a) dX7_readCommand_139 rfl rfl ?_
      refine ev_dup dX7_readCommand_140 rfl ?_
      refine gf_7_5 dX7_readCommand_141 kw_188 ?_
      refine ev_iconst (1) dX7_readCommand_144 rfl ?_
      refine ev_iadd dX7_readCommand_145 ?_
      refine pf_7_5 dX7_readCommand_146 kw_188 ?_
      refine ev_sub hQ (fun S3 hS3 hQ => ?_)
      refine ev_E.goal (pc' := 149) (L' := [some (ev_o 7 a), some (ev_o 8 b0), some (ev_i u2), some (ev_x 1 w3), some (ev_i u4), none]) (K' := []) (S' := S3) ?_ rfl rfl rfl hS3
      exact ev_return dX7_readCommand_149 rfl hQ
    · replace hQ := hQ.1 c2
      refine ev_aload_n (ev_o 7 a) dX7_readCommand_113 rfl rfl ?_
      refine ev_aload_n (ev_o 8 b0) dX7_readCommand_114 rfl rfl ?_
      refine ev_cV mv_X7_openBracket 5 0 7 [ev_o 8 b0] [] dX7_readCommand_115 kw_806 rfl (by decide) rfl (by decide) (by decide) (Nat.le_of_ble_eq_true rfl) hQ ?_ rfl
      rintro o S4 ⟨rfl, hQ⟩
      show ev_E g m_X7_readCommand 7 0 118 [some (ev_o 7 a), some (ev_o 8 b0), some (ev_i u2), some (ev_x 1 w3), some (ev_i u4), none] [] S4 Q
      refine ev_goto 127 dX7_readCommand_118 (by decide) ?_
      refine ev_aload_n (ev_o 7 a) dX7_readCommand_127 rfl rfl ?_
      refine gf_7_0 dX7_readCommand_128 kw_183 ?_
      refine ev_aload_n (ev_o 7 a) dX7_readCommand_131 rfl rfl ?_
      refine gf_7_5 dX7_readCommand_132 kw_188 ?_
      refine ev_iload_n (u2) dX7_readCommand_135 rfl ?_
      refine ev_fNn ms_X9_put 1 [ev_y 60 (a + 1), ev_i (S4.1 a 5), ev_i u2] [] dX7_readCommand_136 (List.mem_of_getElem? (i := 20) rfl) rfl (by decide) (Nat.le_of_ble_eq_true rfl) (sp_X9_put 60 (a + 1) (S4.1 a 5) u2) ?_ rfl
      refine ev_sub hQ (fun S5 hS5 hQ => ?_)
      refine ev_E.goal (pc' := 139) (L' := [some (ev_o 7 a), some (ev_o 8 b0), some (ev_i u2), some (ev_x 1 w3), some (ev_i u4), none]) (K' := []) (S' := S5) ?_ rfl rfl rfl hS5
      refine ev_aload_n (ev_o 7 a) dX7_readCommand_139 rfl rfl ?_
      refine ev_dup dX7_readCommand_140 rfl ?_
      refine gf_7_5 dX7_readCommand_141 kw_188 ?_
      refine ev_iconst (1) dX7_readCommand_144 rfl ?_
      refine ev_iadd dX7_readCommand_145 ?_
      refine pf_7_5 dX7_readCommand_146 kw_188 ?_
      refine ev_sub hQ (fun S6 hS6 hQ => ?_)
      refine ev_E.goal (pc' := 149) (L' := [some (ev_o 7 a), some (ev_o 8 b0), some (ev_i u2), some (ev_x 1 w3), some (ev_i u4), none]) (K' := []) (S' := S6) ?_ rfl rfl rfl hS6
      exact ev_return dX7_readCommand_149 rfl hQ
  · replace hQ := hQ.2 c1
    refine ev_aload_n (ev_x 1 w3) dX7_readCommand_62 rfl rfl ?_
    refine ev_iload (u4) dX7_readCommand_63 rfl ?_
    obtain ⟨h1, hQ⟩ := hQ
    obtain ⟨h2, hQ⟩ := hQ
    obtain ⟨h3, hQ⟩ := hQ
    obtain ⟨h4, hQ⟩ := hQ
    refine ev_fK mv_J0_charAt_5068e 4 [ev_i u4] [] dX7_readCommand_65 kw_798 rfl (by decide) (Nat.le_of_ble_eq_true rfl) (sp_J0_charAt_5068e w3 u4 h1 h2 h3 h4) ?_ rfl
    refine ev_istore dX7_readCommand_68 (Nat.le_of_ble_eq_true rfl) (ev_hw rfl) ?_
    show ev_E g m_X7_readCommand 7 0 70 [some (ev_o 7 a), some (ev_o 8 b0), some (ev_i u2), some (ev_x 1 w3), some (ev_i u4), some (ev_i (j_i2c ((j_byte w3 u4) &&& 255)))] [] S Q
    refine ev_aload_n (ev_o 7 a) dX7_readCommand_70 rfl rfl ?_
    refine gf_7_1 dX7_readCommand_71 kw_184 ?_
    refine ev_aload_n (ev_o 7 a) dX7_readCommand_74 rfl rfl ?_
    refine gf_7_5 dX7_readCommand_75 kw_188 ?_
    refine ev_bipush (6) dX7_readCommand_78 (by decide) ?_
    refine ev_imul dX7_readCommand_80 ?_
    refine ev_iload (u4) dX7_readCommand_81 rfl ?_
    refine ev_iadd dX7_readCommand_83 ?_
    refine ev_aload_n (ev_o 8 b0) dX7_readCommand_84 rfl rfl ?_
    refine ev_iload ((j_i2c ((j_byte w3 u4) &&& 255))) dX7_readCommand_85 rfl ?_
    refine ev_fS ms_X7_lowest 1 [ev_i (j_i2c ((j_byte w3 u4) &&& 255))] [ev_o 8 b0, ev_i (((S.1 a 5) * 6) + u4), ev_y 360 (a + 2)] dX7_readCommand_87 kw_799 rfl (by decide) (Nat.le_of_ble_eq_true rfl) (sp_X7_lowest (j_i2c ((j_byte w3 u4) &&& 255))) ?_ rfl
    refine ev_iload ((j_i2c ((j_byte w3 u4) &&& 255))) dX7_readCommand_90 rfl ?_
    refine ev_cS ms_X7_highest 1 0 [ev_i (j_i2c ((j_byte w3 u4) &&& 255))] [ev_i (f_X7_lowest (j_i2c ((j_byte w3 u4) &&& 255))), ev_o 8 b0, ev_i (((S.1 a 5) * 6) + u4), ev_y 360 (a + 2)] dX7_readCommand_92 kw_802 rfl (by decide) (by decide) (Nat.le_of_ble_eq_true rfl) hQ ?_ rfl
    rintro o S7 ⟨v3_, rfl, hQ⟩
    show ev_E g m_X7_readCommand 7 0 95 [some (ev_o 7 a), some (ev_o 8 b0), some (ev_i u2), some (ev_x 1 w3), some (ev_i u4), some (ev_i (j_i2c ((j_byte w3 u4) &&& 255)))] [ev_i v3_, ev_i (f_X7_lowest (j_i2c ((j_byte w3 u4) &&& 255))), ev_o 8 b0, ev_i (((S.1 a 5) * 6) + u4), ev_y 360 (a + 2)] S7 Q
    refine ev_cV mv_X8_number 4 0 8 [ev_i (f_X7_lowest (j_i2c ((j_byte w3 u4) &&& 255))), ev_i v3_] [ev_i (((S.1 a 5) * 6) + u4), ev_y 360 (a + 2)] dX7_readCommand_95 kw_805 rfl (by decide) rfl (by decide) (by decide) (Nat.le_of_ble_eq_true rfl) hQ ?_ rfl
    rintro o S8 ⟨v4_, rfl, hQ⟩
    show ev_E g m_X7_readCommand 7 0 98 [some (ev_o 7 a), some (ev_o 8 b0), some (ev_i u2), some (ev_x 1 w3), some (ev_i u4), some (ev_i (j_i2c ((j_byte w3 u4) &&& 255)))] [ev_i v4_, ev_i (((S.1 a 5) * 6) + u4), ev_y 360 (a + 2)] S8 Q
    refine ev_fNn ms_X9_put 1 [ev_y 360 (a + 2), ev_i (((S.1 a 5) * 6) + u4), ev_i v4_] [] dX7_readCommand_98 (List.mem_of_getElem? (i := 20) rfl) rfl (by decide) (Nat.le_of_ble_eq_true rfl) (sp_X9_put 360 (a + 2) (((S.1 a 5) * 6) + u4) v4_) ?_ rfl
    refine ev_sub hQ (fun S9 hS9 hQ => ?_)
    refine ev_E.goal (pc' := 101) (L' := [some (ev_o 7 a), some (ev_o 8 b0), some (ev_i u2), some (ev_x 1 w3), some (ev_i u4), some (ev_i (j_i2c ((j_byte w3 u4) &&& 255)))]) (K' := []) (S' := S9) ?_ rfl rfl rfl hS9
    refine ev_iinc u4 (1) dX7_readCommand_101 rfl (by decide) (ev_hw rfl) ?_
    show ev_E g m_X7_readCommand 7 0 104 [some (ev_o 7 a), some (ev_o 8 b0), some (ev_i u2), some (ev_x 1 w3), some (ev_i (u4 + 1)), some (ev_i (j_i2c ((j_byte w3 u4) &&& 255)))] [] S9 Q
    refine ev_goto 53 dX7_readCommand_104 (by decide) ?_
    refine ev_fgm [true, true, true, true, true, false] ?_
    exact hQ
set_option maxHeartbeats 4000000 in
set_option maxRecDepth 100000 in
theorem sg_X7_read_0 {g : ev_G} {S : ev_S} {Q : ev_O → ev_S → Prop} (a : Nat) (b0 : Nat) (hQ : ∀ S1 : ev_S, S1 = (ev_up S a 5 0) → (
    ∀ S2 : ev_S, S2 = (ev_up S1 a 6 0) → (
      ∀ S3 : ev_S, S3 = (ev_up S2 a 7 0) → (
        ev_Cv g m_X8_begin 4 0 [ev_o 8 b0] S3 (fun o S4 => o = .inl none ∧ (
          ev_E g m_X7_read 8 0 21 [some (ev_o 7 a), some (ev_o 8 b0), some (ev_i 0)] [] S4 Q)))))) : ev_Cv g m_X7_read 8 0 [ev_o 7 a, ev_o 8 b0] S Q := by
  refine ev_enter (by decide) rfl rfl (Nat.le_of_ble_eq_true rfl) ?_
  show ev_E g m_X7_read 8 0 0 [some (ev_o 7 a), some (ev_o 8 b0), none] [] S Q
  refine ev_aload_n (ev_o 7 a) dX7_read_0 rfl rfl ?_
  refine ev_iconst (0) dX7_read_1 rfl ?_
  refine pf_7_5 dX7_read_2 kw_188 ?_
  refine ev_sub hQ (fun S1 hS1 hQ => ?_)
  refine ev_E.goal (pc' := 5) (L' := [some (ev_o 7 a), some (ev_o 8 b0), none]) (K' := []) (S' := S1) ?_ rfl rfl rfl hS1
  refine ev_aload_n (ev_o 7 a) dX7_read_5 rfl rfl ?_
  refine ev_iconst (0) dX7_read_6 rfl ?_
  refine pf_7_6 dX7_read_7 kw_189 ?_
  refine ev_sub hQ (fun S2 hS2 hQ => ?_)
  refine ev_E.goal (pc' := 10) (L' := [some (ev_o 7 a), some (ev_o 8 b0), none]) (K' := []) (S' := S2) ?_ rfl rfl rfl hS2
  refine ev_aload_n (ev_o 7 a) dX7_read_10 rfl rfl ?_
  refine ev_iconst (0) dX7_read_11 rfl ?_
  refine pf_7_7 dX7_read_12 kw_190 ?_
  refine ev_sub hQ (fun S3 hS3 hQ => ?_)
  refine ev_E.goal (pc' := 15) (L' := [some (ev_o 7 a), some (ev_o 8 b0), none]) (K' := []) (S' := S3) ?_ rfl rfl rfl hS3
  refine ev_aload_n (ev_o 8 b0) dX7_read_15 rfl rfl ?_
  refine ev_cV mv_X8_begin 4 0 8 [] [] dX7_read_16 kw_753 rfl (by decide) rfl (by decide) (by decide) (Nat.le_of_ble_eq_true rfl) hQ ?_ rfl
  rintro o S4 ⟨rfl, hQ⟩
  show ev_E g m_X7_read 8 0 19 [some (ev_o 7 a), some (ev_o 8 b0), none] [] S4 Q
  refine ev_iconst (0) dX7_read_19 rfl ?_
  refine ev_istore_n dX7_read_20 (Nat.le_of_ble_eq_true rfl) (ev_hw rfl) ?_
  show ev_E g m_X7_read 8 0 21 [some (ev_o 7 a), some (ev_o 8 b0), some (ev_i 0)] [] S4 Q
  exact hQ
set_option maxHeartbeats 4000000 in
set_option maxRecDepth 100000 in
theorem sg_X7_read_21 {g : ev_G} {S : ev_S} {Q : ev_O → ev_S → Prop} (a : Nat) (b0 : Nat) (u2 : Int32) (hQ : (800 < u2 → (
    Q (.inl none) S)) ∧
  (¬ (800 < u2) → (
    ((S.1 b0 7) = 0 → (
      ((S.1 a 7) = 0 → (
        ((t_X8_isEnd S b0) = true → (
          Q (.inl none) S)) ∧
        (¬ ((t_X8_isEnd S b0) = true) → (
          ((S.1 a 7) ≤ 0 → (
            ev_Cv g m_X7_readCommand 7 0 [ev_o 7 a, ev_o 8 b0] S (fun o S6 => o = .inl none ∧ (
              ev_E g m_X7_read 8 0 21 [some (ev_o 7 a), some (ev_o 8 b0), some (ev_i (u2 + 1))] [] S6 Q)))) ∧
          (¬ ((S.1 a 7) ≤ 0) → (
            ev_Cv g m_X8_skipSign 4 0 [ev_o 8 b0, ev_i 41] S (fun o S7 => ∃ v7_ : Bool, o = .inl (some (ev_i (if v7_ = true then 1 else 0))) ∧ (
              (v7_ = true → (
                ev_Cv g m_X7_closeBracket 2 0 [ev_o 7 a] S7 (fun o S8 => o = .inl none ∧ (
                  ev_Cv g m_X8_expectSign 4 0 [ev_o 8 b0, ev_i 59] S8 (fun o S9 => o = .inl none ∧ (
                    ev_E g m_X7_read 8 0 21 [some (ev_o 7 a), some (ev_o 8 b0), some (ev_i (u2 + 1))] [] S9 Q)))))) ∧
              (¬ (v7_ = true) → (
                ev_Cv g m_X7_readCommand 7 0 [ev_o 7 a, ev_o 8 b0] S7 (fun o S10 => o = .inl none ∧ (
                  ev_E g m_X7_read 8 0 21 [some (ev_o 7 a), some (ev_o 8 b0), some (ev_i (u2 + 1))] [] S10 Q)))))))))))) ∧
      (¬ ((S.1 a 7) = 0) → (
        ((S.1 a 7) ≤ 0 → (
          ev_Cv g m_X7_readCommand 7 0 [ev_o 7 a, ev_o 8 b0] S (fun o S1 => o = .inl none ∧ (
            ev_E g m_X7_read 8 0 21 [some (ev_o 7 a), some (ev_o 8 b0), some (ev_i (u2 + 1))] [] S1 Q)))) ∧
        (¬ ((S.1 a 7) ≤ 0) → (
          ev_Cv g m_X8_skipSign 4 0 [ev_o 8 b0, ev_i 41] S (fun o S2 => ∃ v2_ : Bool, o = .inl (some (ev_i (if v2_ = true then 1 else 0))) ∧ (
            (v2_ = true → (
              ev_Cv g m_X7_closeBracket 2 0 [ev_o 7 a] S2 (fun o S3 => o = .inl none ∧ (
                ev_Cv g m_X8_expectSign 4 0 [ev_o 8 b0, ev_i 59] S3 (fun o S4 => o = .inl none ∧ (
                  ev_E g m_X7_read 8 0 21 [some (ev_o 7 a), some (ev_o 8 b0), some (ev_i (u2 + 1))] [] S4 Q)))))) ∧
            (¬ (v2_ = true) → (
              ev_Cv g m_X7_readCommand 7 0 [ev_o 7 a, ev_o 8 b0] S2 (fun o S5 => o = .inl none ∧ (
                ev_E g m_X7_read 8 0 21 [some (ev_o 7 a), some (ev_o 8 b0), some (ev_i (u2 + 1))] [] S5 Q)))))))))))) ∧
    (¬ ((S.1 b0 7) = 0) → (
      Q (.inl none) S))))) : ev_E g m_X7_read 8 0 21 [some (ev_o 7 a), some (ev_o 8 b0), some (ev_i u2)] [] S Q := by
  refine ev_iload_n (u2) dX7_read_21 rfl ?_
  refine ev_sipush (800) dX7_read_22 (by decide) ?_
  refine ev_icmp_gt 90 dX7_read_25 (by decide) (fun c1 => ?_) (fun c1 => ?_)
  · replace hQ := hQ.1 c1
    exact ev_return dX7_read_90 rfl hQ
  · replace hQ := hQ.2 c1
    refine ev_aload_n (ev_o 8 b0) dX7_read_28 rfl rfl ?_
    refine ev_fV mv_X8_hasError 1 8 [] [] dX7_read_29 kw_754 rfl (by decide) rfl (by decide) (Nat.le_of_ble_eq_true rfl) (sp_X8_hasError b0) ?_ rfl
    by_cases c2 : (S.1 b0 7) = 0
    · rw [if_pos c2]
      replace hQ := hQ.1 c2
      refine ev_if_ne 90 dX7_read_32 (by decide) (fun h9 => absurd (by decide : ((0 : Int32) = 0)) h9) (fun _ => ?_)
      refine ev_aload_n (ev_o 7 a) dX7_read_35 rfl rfl ?_
      refine gf_7_7 dX7_read_36 kw_190 ?_
      refine ev_if_ne 50 dX7_read_39 (by decide) (fun c3 => ?_) (fun c3 => ?_)
      · replace hQ := hQ.2 c3
        refine ev_aload_n (ev_o 7 a) dX7_read_50 rfl rfl ?_
        refine gf_7_7 dX7_read_51 kw_190 ?_
        refine ev_if_le 79 dX7_read_54 (by decide) (fun c4 => ?_) (fun c4 => ?_)
        · replace hQ := hQ.1 c4
          refine ev_aload_n (ev_o 7 a) dX7_read_79 rfl rfl ?_
          refine ev_aload_n (ev_o 8 b0) dX7_read_80 rfl rfl ?_
          refine ev_cV mv_X7_readCommand 7 0 7 [ev_o 8 b0] [] dX7_read_81 kw_770 rfl (by decide) rfl (by decide) (by decide) (Nat.le_of_ble_eq_true rfl) hQ ?_ rfl
          rintro o S1 ⟨rfl, hQ⟩
          show ev_E g m_X7_read 8 0 84 [some (ev_o 7 a), some (ev_o 8 b0), some (ev_i u2)] [] S1 Q
          refine ev_iinc u2 (1) dX7_read_84 rfl (by decide) (ev_hw rfl) ?_
          show ev_E g m_X7_read 8 0 87 [some (ev_o 7 a), some (ev_o 8 b0), some (ev_i (u2 + 1))] [] S1 Q
          refine ev_goto 21 dX7_read_87 (by decide) ?_
          exact hQ
        · replace hQ := hQ.2 c4
          refine ev_aload_n (ev_o 8 b0) dX7_read_57 rfl rfl ?_
          refine ev_bipush (41) dX7_read_58 (by decide) ?_
          refine ev_cV mv_X8_skipSign 4 0 8 [ev_i 41] [] dX7_read_60 kw_759 rfl (by decide) rfl (by decide) (by decide) (Nat.le_of_ble_eq_true rfl) hQ ?_ rfl
          rintro o S2 ⟨v2_, rfl, hQ⟩
          show ev_E g m_X7_read 8 0 63 [some (ev_o 7 a), some (ev_o 8 b0), some (ev_i u2)] [ev_i (if v2_ = true then 1 else 0)] S2 Q
          by_cases c5 : v2_ = true
          · rw [if_pos c5]
            replace hQ := hQ.1 c5
            refine ev_if_eq 79 dX7_read_63 (by decide) (fun h9 => absurd h9 (by decide : ¬ ((1 : Int32) = 0))) (fun _ => ?_)
            refine ev_aload_n (ev_o 7 a) dX7_read_66 rfl rfl ?_
            refine ev_cV mv_X7_closeBracket 2 0 7 [] [] dX7_read_67 kw_763 rfl (by decide) rfl (by decide) (by decide) (Nat.le_of_ble_eq_true rfl) hQ ?_ rfl
            rintro o S3 ⟨rfl, hQ⟩
            show ev_E g m_X7_read 8 0 70 [some (ev_o 7 a), some (ev_o 8 b0), some (ev_i u2)] [] S3 Q
            refine ev_aload_n (ev_o 8 b0) dX7_read_70 rfl rfl ?_
            refine ev_bipush (59) dX7_read_71 (by decide) ?_
            refine ev_cV mv_X8_expectSign 4 0 8 [ev_i 59] [] dX7_read_73 kw_769 rfl (by decide) rfl (by decide) (by decide) (Nat.le_of_ble_eq_true rfl) hQ ?_ rfl
            rintro o S4 ⟨rfl, hQ⟩
            show ev_E g m_X7_read 8 0 76 [some (ev_o 7 a), some (ev_o 8 b0), some (ev_i u2)] [] S4 Q
            refine ev_goto 84 dX7_read_76 (by decide) ?_
            refine ev_iinc u2 (1) dX7_read_84 rfl (by decide) (ev_hw rfl) ?_
            show ev_E g m_X7_read 8 0 87 [some (ev_o 7 a), some (ev_o 8 b0), some (ev_i (u2 + 1))] [] S4 Q
            refine ev_goto 21 dX7_read_87 (by decide) ?_
            exact hQ
          · rw [if_neg c5]
            replace hQ := hQ.2 c5
            refine ev_if_eq 79 dX7_read_63 (by decide) (fun _ => ?_) (fun h9 => absurd (by decide : ((0 : Int32) = 0)) h9)
            refine ev_aload_n (ev_o 7 a) dX7_read_79 rfl rfl ?_
            refine ev_aload_n (ev_o 8 b0) dX7_read_80 rfl rfl ?_
            refine ev_cV mv_X7_readCommand 7 0 7 [ev_o 8 b0] [] dX7_read_81 kw_770 rfl (by decide) rfl (by decide) (by decide) (Nat.le_of_ble_eq_true rfl) hQ ?_ rfl
            rintro o S5 ⟨rfl, hQ⟩
            show ev_E g m_X7_read 8 0 84 [some (ev_o 7 a), some (ev_o 8 b0), some (ev_i u2)] [] S5 Q
            refine ev_iinc u2 (1) dX7_read_84 rfl (by decide) (ev_hw rfl) ?_
            show ev_E g m_X7_read 8 0 87 [some (ev_o 7 a), some (ev_o 8 b0), some (ev_i (u2 + 1))] [] S5 Q
            refine ev_goto 21 dX7_read_87 (by decide) ?_
            exact hQ
      · replace hQ := hQ.1 c3
        refine ev_aload_n (ev_o 8 b0) dX7_read_42 rfl rfl ?_
        refine ev_fV mv_X8_isEnd 1 8 [] [] dX7_read_43 kw_755 rfl (by decide) rfl (by decide) (Nat.le_of_ble_eq_true rfl) (sp_X8_isEnd b0) ?_ rfl
        by_cases c6 : (t_X8_isEnd S b0) = true
        · rw [if_pos c6]
          replace hQ := hQ.1 c6
          refine ev_if_eq 50 dX7_read_46 (by decide) (fun h9 => absurd h9 (by decide : ¬ ((1 : Int32) = 0))) (fun _ => ?_)
          exact ev_return dX7_read_49 rfl hQ
        · rw [if_neg c6]
          replace hQ := hQ.2 c6
          refine ev_if_eq 50 dX7_read_46 (by decide) (fun _ => ?_) (fun h9 => absurd (by decide : ((0 : Int32) = 0)) h9)
          refine ev_aload_n (ev_o 7 a) dX7_read_50 rfl rfl ?_
          refine gf_7_7 dX7_read_51 kw_190 ?_
          refine ev_if_le 79 dX7_read_54 (by decide) (fun c7 => ?_) (fun c7 => ?_)
          · replace hQ := hQ.1 c7
            refine ev_aload_n (ev_o 7 a) dX7_read_79 rfl rfl ?_
            refine ev_aload_n (ev_o 8 b0) dX7_read_80 rfl rfl ?_
            refine ev_cV mv_X7_readCommand 7 0 7 [ev_o 8 b0] [] dX7_read_81 kw_770 rfl (by decide) rfl (by decide) (by decide) (Nat.le_of_ble_eq_true rfl) hQ ?_ rfl
            rintro o S6 ⟨rfl, hQ⟩
            show ev_E g m_X7_read 8 0 84 [some (ev_o 7 a), some (ev_o 8 b0), some (ev_i u2)] [] S6 Q
            refine ev_iinc u2 (1) dX7_read_84 rfl (by decide) (ev_hw rfl) ?_
            show ev_E g m_X7_read 8 0 87 [some (ev_o 7 a), some (ev_o 8 b0), some (ev_i (u2 + 1))] [] S6 Q
            refine ev_goto 21 dX7_read_87 (by decide) ?_
            exact hQ
          · replace hQ := hQ.2 c7
            refine ev_aload_n (ev_o 8 b0) dX7_read_57 rfl rfl ?_
            refine ev_bipush (41) dX7_read_58 (by decide) ?_
            refine ev_cV mv_X8_skipSign 4 0 8 [ev_i 41] [] dX7_read_60 kw_759 rfl (by decide) rfl (by decide) (by decide) (Nat.le_of_ble_eq_true rfl) hQ ?_ rfl
            rintro o S7 ⟨v7_, rfl, hQ⟩
            show ev_E g m_X7_read 8 0 63 [some (ev_o 7 a), some (ev_o 8 b0), some (ev_i u2)] [ev_i (if v7_ = true then 1 else 0)] S7 Q
            by_cases c8 : v7_ = true
            · rw [if_pos c8]
              replace hQ := hQ.1 c8
              refine ev_if_eq 79 dX7_read_63 (by decide) (fun h9 => absurd h9 (by decide : ¬ ((1 : Int32) = 0))) (fun _ => ?_)
              refine ev_aload_n (ev_o 7 a) dX7_read_66 rfl rfl ?_
              refine ev_cV mv_X7_closeBracket 2 0 7 [] [] dX7_read_67 kw_763 rfl (by decide) rfl (by decide) (by decide) (Nat.le_of_ble_eq_true rfl) hQ ?_ rfl
              rintro o S8 ⟨rfl, hQ⟩
              show ev_E g m_X7_read 8 0 70 [some (ev_o 7 a), some (ev_o 8 b0), some (ev_i u2)] [] S8 Q
              refine ev_aload_n (ev_o 8 b0) dX7_read_70 rfl rfl ?_
              refine ev_bipush (59) dX7_read_71 (by decide) ?_
              refine ev_cV mv_X8_expectSign 4 0 8 [ev_i 59] [] dX7_read_73 kw_769 rfl (by decide) rfl (by decide) (by decide) (Nat.le_of_ble_eq_true rfl) hQ ?_ rfl
              rintro o S9 ⟨rfl, hQ⟩
              show ev_E g m_X7_read 8 0 76 [some (ev_o 7 a), some (ev_o 8 b0), some (ev_i u2)] [] S9 Q
              refine ev_goto 84 dX7_read_76 (by decide) ?_
              refine ev_iinc u2 (1) dX7_read_84 rfl (by decide) (ev_hw rfl) ?_
              show ev_E g m_X7_read 8 0 87 [some (ev_o 7 a), some (ev_o 8 b0), some (ev_i (u2 + 1))] [] S9 Q
              refine ev_goto 21 dX7_read_87 (by decide) ?_
              exact hQ
            · rw [if_neg c8]
              replace hQ := hQ.2 c8
              refine ev_if_eq 79 dX7_read_63 (by decide) (fun _ => ?_) (fun h9 => absurd (by decide : ((0 : Int32) = 0)) h9)
              refine ev_aload_n (ev_o 7 a) dX7_read_79 rfl rfl ?_
              refine ev_aload_n (ev_o 8 b0) dX7_read_80 rfl rfl ?_
              refine ev_cV mv_X7_readCommand 7 0 7 [ev_o 8 b0] [] dX7_read_81 kw_770 rfl (by decide) rfl (by decide) (by decide) (Nat.le_of_ble_eq_true rfl) hQ ?_ rfl
              rintro o S10 ⟨rfl, hQ⟩
              show ev_E g m_X7_read 8 0 84 [some (ev_o 7 a), some (ev_o 8 b0), some (ev_i u2)] [] S10 Q
              refine ev_iinc u2 (1) dX7_read_84 rfl (by decide) (ev_hw rfl) ?_
              show ev_E g m_X7_read 8 0 87 [some (ev_o 7 a), some (ev_o 8 b0), some (ev_i (u2 + 1))] [] S10 Q
              refine ev_goto 21 dX7_read_87 (by decide) ?_
              exact hQ
    · rw [if_neg c2]
      replace hQ := hQ.2 c2
      refine ev_if_ne 90 dX7_read_32 (by decide) (fun _ => ?_) (fun h9 => absurd h9 (by decide : ¬ ((1 : Int32) = 0)))
      exact ev_return dX7_read_90 rfl hQ
set_option maxHeartbeats 4000000 in
set_option maxRecDepth 100000 in
theorem sg_X3_newestGame_0 {g : ev_G} {S : ev_S} {Q : ev_O → ev_S → Prop} (a : Nat) (hQ : ((S.1 a 2) < 0 → (
    (False) ∧ True)) ∧
  (¬ ((S.1 a 2) < 0) → (
    (8 ≤ (S.1 a 2) → (
      (False) ∧ True)) ∧
    (¬ (8 ≤ (S.1 a 2)) → (
      (vp_in (S.1 a 2) 8) ∧ (
        Q (.inl (some (ev_o 2 (a_past (a + 1) (S.1 a 2))))) S)))))) : ev_Cv g m_X3_newestGame 1 0 [ev_o 3 a] S Q := by
  refine ev_enter (by decide) rfl rfl (Nat.le_of_ble_eq_true rfl) ?_
  show ev_E g m_X3_newestGame 1 0 0 [some (ev_o 3 a)] [] S Q
  refine ev_aload_n (ev_o 3 a) dX3_newestGame_0 rfl rfl ?_
  refine gf_3_2 dX3_newestGame_1 kw_416 ?_
  refine ev_if_lt 31 dX3_newestGame_4 (by decide) (fun c1 => ?_) (fun c1 => ?_)
  · replace hQ := hQ.1 c1
    exact hQ.1.elim
  · replace hQ := hQ.2 c1
    refine ev_aload_n (ev_o 3 a) dX3_newestGame_7 rfl rfl ?_
    refine gf_3_2 dX3_newestGame_8 kw_416 ?_
    refine ev_aload_n (ev_o 3 a) dX3_newestGame_11 rfl rfl ?_
    refine gf_3_0 dX3_newestGame_12 kw_414 ?_
    refine ev_glen 8 dX3_newestGame_15 rfl ?_
    refine ev_icmp_ge 31 dX3_newestGame_16 (by decide) (fun c2 => ?_) (fun c2 => ?_)
    · replace hQ := hQ.1 c2
      exact hQ.1.elim
    · replace hQ := hQ.2 c2
      refine ev_aload_n (ev_o 3 a) dX3_newestGame_19 rfl rfl ?_
      refine gf_3_0 dX3_newestGame_20 kw_414 ?_
      refine ev_aload_n (ev_o 3 a) dX3_newestGame_23 rfl rfl ?_
      refine gf_3_2 dX3_newestGame_24 kw_416 ?_
      obtain ⟨h1, hQ⟩ := hQ
      refine ev_aal dX3_newestGame_27 h1 ?_
      show ev_E g m_X3_newestGame 1 0 28 [some (ev_o 3 a)] [ev_o 2 (a_past (a + 1) (S.1 a 2))] S Q
      refine ev_goto 32 dX3_newestGame_28 (by decide) ?_
      exact ev_areturn _ dX3_newestGame_32 rfl rfl (Or.inl ⟨_, rfl⟩) hQ
set_option maxHeartbeats 4000000 in
set_option maxRecDepth 100000 in
theorem sp_X3_newestGame {g : ev_G} {S : ev_S} (a : Nat) (q0 : ((S.1 a 2) < 0) → False) (q1 : ¬ ((S.1 a 2) < 0) → (8 ≤ (S.1 a 2)) → False) (q2 : ¬ ((S.1 a 2) < 0) → ¬ (8 ≤ (S.1 a 2)) → vp_in (S.1 a 2) 8) : ev_Fn g m_X3_newestGame 1 [ev_o 3 a] S (some (ev_o 2 (a_past (a + 1) (S.1 a 2)))) S := by
  intro Q hQ
  refine sg_X3_newestGame_0 a ?_
  refine ⟨fun c1 => ?_, fun c1 => ?_⟩
  · skip
    exact (q0 c1).elim
  · skip
    refine ⟨fun c2 => ?_, fun c2 => ?_⟩
    · skip
      exact (q1 c1 c2).elim
    · skip
      refine ⟨(q2 c1 c2), ?_⟩
      exact hQ
set_option maxHeartbeats 4000000 in
set_option maxRecDepth 100000 in
theorem sg_X3_remember_0 {g : ev_G} {S : ev_S} {Q : ev_O → ev_S → Prop} (a : Nat) (b0 : Nat) (hQ : (8 ≤ ((S.1 a 2) + 1) → (
    ∀ S1 : ev_S, S1 = (ev_up S a 2 0) → (
      ∀ S2 : ev_S, S2 = (ev_up S1 a 1 (ev_min ((S.1 a 1) + 1) 8)) → (
        (((S2.1 a 2) < 0) → False) ∧ (
          (¬ ((S2.1 a 2) < 0) → (8 ≤ (S2.1 a 2)) → False) ∧ (
            (¬ ((S2.1 a 2) < 0) → ¬ (8 ≤ (S2.1 a 2)) → vp_in (S2.1 a 2) 8) ∧ (
              ev_Cv g m_X2_copyFrom 4 0 [ev_o 2 (a_past (a + 1) (S2.1 a 2)), ev_o 2 b0] S2 (fun o S3 => o = .inl none ∧ (
                Q (.inl none) S3))))))))) ∧
  (¬ (8 ≤ ((S.1 a 2) + 1)) → (
    ∀ S4 : ev_S, S4 = (ev_up S a 2 ((S.1 a 2) + 1)) → (
      ∀ S5 : ev_S, S5 = (ev_up S4 a 1 (ev_min ((S.1 a 1) + 1) 8)) → (
        (((S5.1 a 2) < 0) → False) ∧ (
          (¬ ((S5.1 a 2) < 0) → (8 ≤ (S5.1 a 2)) → False) ∧ (
            (¬ ((S5.1 a 2) < 0) → ¬ (8 ≤ (S5.1 a 2)) → vp_in (S5.1 a 2) 8) ∧ (
              ev_Cv g m_X2_copyFrom 4 0 [ev_o 2 (a_past (a + 1) (S5.1 a 2)), ev_o 2 b0] S5 (fun o S6 => o = .inl none ∧ (
                Q (.inl none) S6)))))))))) : ev_Cv g m_X3_remember 5 0 [ev_o 3 a, ev_o 2 b0] S Q := by
  refine ev_enter (by decide) rfl rfl (Nat.le_of_ble_eq_true rfl) ?_
  show ev_E g m_X3_remember 5 0 0 [some (ev_o 3 a), some (ev_o 2 b0), none] [] S Q
  refine ev_aload_n (ev_o 3 a) dX3_remember_0 rfl rfl ?_
  refine ev_aload_n (ev_o 3 a) dX3_remember_1 rfl rfl ?_
  refine gf_3_2 dX3_remember_2 kw_416 ?_
  refine ev_iconst (1) dX3_remember_5 rfl ?_
  refine ev_iadd dX3_remember_6 ?_
  refine ev_aload_n (ev_o 3 a) dX3_remember_7 rfl rfl ?_
  refine gf_3_0 dX3_remember_8 kw_414 ?_
  refine ev_glen 8 dX3_remember_11 rfl ?_
  refine ev_icmp_ge 24 dX3_remember_12 (by decide) (fun c1 => ?_) (fun c1 => ?_)
  · replace hQ := hQ.1 c1
    refine ev_iconst (0) dX3_remember_24 rfl ?_
    refine pf_3_2 dX3_remember_25 kw_416 ?_
    refine ev_sub hQ (fun S1 hS1 hQ => ?_)
    refine ev_E.goal (pc' := 28) (L' := [some (ev_o 3 a), some (ev_o 2 b0), none]) (K' := []) (S' := S1) ?_ rfl rfl rfl hS1
    refine ev_aload_n (ev_o 3 a) dX3_remember_28 rfl rfl ?_
    refine ev_aload_n (ev_o 3 a) dX3_remember_29 rfl rfl ?_
    refine gf_3_1 dX3_remember_30 kw_415 ?_
    refine ev_ke (j_rk hS1 (Or.inr (by decide))) ?_
    refine ev_iconst (1) dX3_remember_33 rfl ?_
    refine ev_iadd dX3_remember_34 ?_
    refine ev_aload_n (ev_o 3 a) dX3_remember_35 rfl rfl ?_
    refine gf_3_0 dX3_remember_36 kw_414 ?_
    refine ev_glen 8 dX3_remember_39 rfl ?_
    refine ev_mathMin dX3_remember_40 kw_815 kw_513 kw_123 kw_514 (Nat.le_of_ble_eq_true rfl) ?_
    refine pf_3_1 dX3_remember_43 kw_415 ?_
    refine ev_sub hQ (fun S2 hS2 hQ => ?_)
    refine ev_E.goal (pc' := 46) (L' := [some (ev_o 3 a), some (ev_o 2 b0), none]) (K' := []) (S' := S2) ?_ rfl rfl rfl hS2
    refine ev_aload_n (ev_o 3 a) dX3_remember_46 rfl rfl ?_
    obtain ⟨h1, hQ⟩ := hQ
    obtain ⟨h2, hQ⟩ := hQ
    obtain ⟨h3, hQ⟩ := hQ
    refine ev_fV mv_X3_newestGame 1 3 [] [] dX3_remember_47 kw_816 rfl (by decide) rfl (by decide) (Nat.le_of_ble_eq_true rfl) (sp_X3_newestGame a h1 h2 h3) ?_ rfl
    refine ev_astore_n dX3_remember_50 rfl (Nat.le_of_ble_eq_true rfl) (ev_hw rfl) ?_
    show ev_E g m_X3_remember 5 0 51 [some (ev_o 3 a), some (ev_o 2 b0), some (ev_o 2 (a_past (a + 1) (S2.1 a 2)))] [] S2 Q
    refine ev_aload_n (ev_o 2 (a_past (a + 1) (S2.1 a 2))) dX3_remember_51 rfl rfl ?_
    refine ev_ifnull dX3_remember_52 rfl ?_
    refine ev_aload_n (ev_o 2 (a_past (a + 1) (S2.1 a 2))) dX3_remember_55 rfl rfl ?_
    refine ev_aload_n (ev_o 2 b0) dX3_remember_56 rfl rfl ?_
    refine ev_cV mv_X2_copyFrom 4 0 2 [ev_o 2 b0] [] dX3_remember_57 kw_820 rfl (by decide) rfl (by decide) (by decide) (Nat.le_of_ble_eq_true rfl) hQ ?_ rfl
    rintro o S3 ⟨rfl, hQ⟩
    show ev_E g m_X3_remember 5 0 60 [some (ev_o 3 a), some (ev_o 2 b0), some (ev_o 2 (a_past (a + 1) (S2.1 a 2)))] [] S3 Q
    exact ev_return dX3_remember_60 rfl hQ
  · replace hQ := hQ.2 c1
    refine ev_aload_n (ev_o 3 a) dX3_remember_15 rfl rfl ?_
    refine gf_3_2 dX3_remember_16 kw_416 ?_
    refine ev_iconst (1) dX3_remember_19 rfl ?_
    refine ev_iadd dX3_remember_20 ?_
    refine ev_goto 25 dX3_remember_21 (by decide) ?_
    refine pf_3_2 dX3_remember_25 kw_416 ?_
    refine ev_sub hQ (fun S4 hS4 hQ => ?_)
    refine ev_E.goal (pc' := 28) (L' := [some (ev_o 3 a), some (ev_o 2 b0), none]) (K' := []) (S' := S4) ?_ rfl rfl rfl hS4
    refine ev_aload_n (ev_o 3 a) dX3_remember_28 rfl rfl ?_
    refine ev_aload_n (ev_o 3 a) dX3_remember_29 rfl rfl ?_
    refine gf_3_1 dX3_remember_30 kw_415 ?_
    refine ev_ke (j_rk hS4 (Or.inr (by decide))) ?_
    refine ev_iconst (1) dX3_remember_33 rfl ?_
    refine ev_iadd dX3_remember_34 ?_
    refine ev_aload_n (ev_o 3 a) dX3_remember_35 rfl rfl ?_
    refine gf_3_0 dX3_remember_36 kw_414 ?_
    refine ev_glen 8 dX3_remember_39 rfl ?_
    refine ev_mathMin dX3_remember_40 kw_815 kw_513 kw_123 kw_514 (Nat.le_of_ble_eq_true rfl) ?_
    refine pf_3_1 dX3_remember_43 kw_415 ?_
    refine ev_sub hQ (fun S5 hS5 hQ => ?_)
    refine ev_E.goal (pc' := 46) (L' := [some (ev_o 3 a), some (ev_o 2 b0), none]) (K' := []) (S' := S5) ?_ rfl rfl rfl hS5
    refine ev_aload_n (ev_o 3 a) dX3_remember_46 rfl rfl ?_
    obtain ⟨h4, hQ⟩ := hQ
    obtain ⟨h5, hQ⟩ := hQ
    obtain ⟨h6, hQ⟩ := hQ
    refine ev_fV mv_X3_newestGame 1 3 [] [] dX3_remember_47 kw_816 rfl (by decide) rfl (by decide) (Nat.le_of_ble_eq_true rfl) (sp_X3_newestGame a h4 h5 h6) ?_ rfl
    refine ev_astore_n dX3_remember_50 rfl (Nat.le_of_ble_eq_true rfl) (ev_hw rfl) ?_
    show ev_E g m_X3_remember 5 0 51 [some (ev_o 3 a), some (ev_o 2 b0), some (ev_o 2 (a_past (a + 1) (S5.1 a 2)))] [] S5 Q
    refine ev_aload_n (ev_o 2 (a_past (a + 1) (S5.1 a 2))) dX3_remember_51 rfl rfl ?_
    refine ev_ifnull dX3_remember_52 rfl ?_
    refine ev_aload_n (ev_o 2 (a_past (a + 1) (S5.1 a 2))) dX3_remember_55 rfl rfl ?_
    refine ev_aload_n (ev_o 2 b0) dX3_remember_56 rfl rfl ?_
    refine ev_cV mv_X2_copyFrom 4 0 2 [ev_o 2 b0] [] dX3_remember_57 kw_820 rfl (by decide) rfl (by decide) (by decide) (Nat.le_of_ble_eq_true rfl) hQ ?_ rfl
    rintro o S6 ⟨rfl, hQ⟩
    show ev_E g m_X3_remember 5 0 60 [some (ev_o 3 a), some (ev_o 2 b0), some (ev_o 2 (a_past (a + 1) (S5.1 a 2)))] [] S6 Q
    exact ev_return dX3_remember_60 rfl hQ
set_option maxHeartbeats 4000000 in
set_option maxRecDepth 100000 in
theorem sg_X7_length_0 {g : ev_G} {S : ev_S} {Q : ev_O → ev_S → Prop} (a : Nat) (hQ : Q (.inl (some (ev_i (S.1 a 5)))) S) : ev_Cv g m_X7_length 1 0 [ev_o 7 a] S Q := by
  refine ev_enter (by decide) rfl rfl (Nat.le_of_ble_eq_true rfl) ?_
  show ev_E g m_X7_length 1 0 0 [some (ev_o 7 a)] [] S Q
  refine ev_aload_n (ev_o 7 a) dX7_length_0 rfl rfl ?_
  refine gf_7_5 dX7_length_1 kw_188 ?_
  exact ev_ireturn .int dX7_length_4 rfl rfl hQ
set_option maxHeartbeats 4000000 in
set_option maxRecDepth 100000 in
theorem sp_X7_length {g : ev_G} {S : ev_S} (a : Nat)  : ev_Fn g m_X7_length 1 [ev_o 7 a] S (some (ev_i (S.1 a 5))) S := by
  intro Q hQ
  refine sg_X7_length_0 a ?_
  exact hQ
set_option maxHeartbeats 4000000 in
set_option maxRecDepth 100000 in
theorem sg_X7_commandAt_0 {g : ev_G} {S : ev_S} {Q : ev_O → ev_S → Prop} (a : Nat) (x0 : Int32) (hQ : Q (.inl (some (ev_i (j_at (S.1 (a + 1)) 60 x0)))) S) : ev_Cv g m_X7_commandAt 2 0 [ev_o 7 a, ev_i x0] S Q := by
  refine ev_enter (by decide) rfl rfl (Nat.le_of_ble_eq_true rfl) ?_
  show ev_E g m_X7_commandAt 2 0 0 [some (ev_o 7 a), some (ev_i x0)] [] S Q
  refine ev_aload_n (ev_o 7 a) dX7_commandAt_0 rfl rfl ?_
  refine gf_7_0 dX7_commandAt_1 kw_183 ?_
  refine ev_iload_n (x0) dX7_commandAt_4 rfl ?_
  refine ev_fN ms_X9_at 1 [ev_y 60 (a + 1), ev_i x0] [] dX7_commandAt_5 (List.mem_of_getElem? (i := 19) rfl) rfl (by decide) (Nat.le_of_ble_eq_true rfl) (sp_X9_at 60 (a + 1) x0) ?_ rfl
  exact ev_ireturn .int dX7_commandAt_8 rfl rfl hQ
set_option maxHeartbeats 4000000 in
set_option maxRecDepth 100000 in
theorem sp_X7_commandAt {g : ev_G} {S : ev_S} (a : Nat) (x0 : Int32)  : ev_Fn g m_X7_commandAt 2 [ev_o 7 a, ev_i x0] S (some (ev_i (j_at (S.1 (a + 1)) 60 x0))) S := by
  intro Q hQ
  refine sg_X7_commandAt_0 a x0 ?_
  exact hQ
set_option maxHeartbeats 4000000 in
set_option maxRecDepth 100000 in
theorem sg_X7_isJump_0 {g : ev_G} {S : ev_S} {Q : ev_O → ev_S → Prop} (a : Nat) (x0 : Int32) (hQ : ((j_at (S.1 (a + 1)) 60 x0) = 7 → (
    Q (.inl (some (ev_i 1))) S)) ∧
  (¬ ((j_at (S.1 (a + 1)) 60 x0) = 7) → (
    ((j_at (S.1 (a + 1)) 60 x0) = 8 → (
      Q (.inl (some (ev_i 1))) S)) ∧
    (¬ ((j_at (S.1 (a + 1)) 60 x0) = 8) → (
      Q (.inl (some (ev_i 0))) S))))) : ev_Cv g m_X7_isJump 3 0 [ev_o 7 a, ev_i x0] S Q := by
  refine ev_enter (by decide) rfl rfl (Nat.le_of_ble_eq_true rfl) ?_
  show ev_E g m_X7_isJump 3 0 0 [some (ev_o 7 a), some (ev_i x0)] [] S Q
  refine ev_aload_n (ev_o 7 a) dX7_isJump_0 rfl rfl ?_
  refine ev_iload_n (x0) dX7_isJump_1 rfl ?_
  refine ev_fV mv_X7_commandAt 2 7 [ev_i x0] [] dX7_isJump_2 kw_829 rfl (by decide) rfl (by decide) (Nat.le_of_ble_eq_true rfl) (sp_X7_commandAt a x0) ?_ rfl
  refine ev_bipush (7) dX7_isJump_5 (by decide) ?_
  refine ev_icmp_eq 20 dX7_isJump_7 (by decide) (fun c1 => ?_) (fun c1 => ?_)
  · replace hQ := hQ.1 c1
    refine ev_iconst (1) dX7_isJump_20 rfl ?_
    refine ev_goto 25 dX7_isJump_21 (by decide) ?_
    exact ev_ireturn .boolean dX7_isJump_25 rfl rfl hQ
  · replace hQ := hQ.2 c1
    refine ev_aload_n (ev_o 7 a) dX7_isJump_10 rfl rfl ?_
    refine ev_iload_n (x0) dX7_isJump_11 rfl ?_
    refine ev_fV mv_X7_commandAt 2 7 [ev_i x0] [] dX7_isJump_12 kw_829 rfl (by decide) rfl (by decide) (Nat.le_of_ble_eq_true rfl) (sp_X7_commandAt a x0) ?_ rfl
    refine ev_bipush (8) dX7_isJump_15 (by decide) ?_
    refine ev_icmp_ne 24 dX7_isJump_17 (by decide) (fun c2 => ?_) (fun c2 => ?_)
    · replace hQ := hQ.2 c2
      refine ev_iconst (0) dX7_isJump_24 rfl ?_
      exact ev_ireturn .boolean dX7_isJump_25 rfl rfl hQ
    · replace hQ := hQ.1 c2
      refine ev_iconst (1) dX7_isJump_20 rfl ?_
      refine ev_goto 25 dX7_isJump_21 (by decide) ?_
      exact ev_ireturn .boolean dX7_isJump_25 rfl rfl hQ
def t_X7_isJump (S : ev_S) (a : Nat) (x0 : Int32) : Bool := if (j_at (S.1 (a + 1)) 60 x0) = 7 then (true) else (if (j_at (S.1 (a + 1)) 60 x0) = 8 then (true) else (false))
set_option maxHeartbeats 4000000 in
set_option maxRecDepth 100000 in
theorem sp_X7_isJump {g : ev_G} {S : ev_S} (a : Nat) (x0 : Int32)  : ev_Fn g m_X7_isJump 3 [ev_o 7 a, ev_i x0] S (some (ev_i (if (t_X7_isJump S a x0) = true then 1 else 0))) S := by
  intro Q hQ
  refine sg_X7_isJump_0 a x0 ?_
  unfold t_X7_isJump at hQ
  refine ⟨fun c1 => ?_, fun c1 => ?_⟩
  · rw [if_pos c1] at hQ
    exact hQ
  · rw [if_neg c1] at hQ
    refine ⟨fun c2 => ?_, fun c2 => ?_⟩
    · rw [if_pos c2] at hQ
      exact hQ
    · rw [if_neg c2] at hQ
      exact hQ
set_option maxHeartbeats 4000000 in
set_option maxRecDepth 100000 in
theorem sg_X7_argument_0 {g : ev_G} {S : ev_S} {Q : ev_O → ev_S → Prop} (a : Nat) (x0 : Int32) (x1 : Int32) (hQ : Q (.inl (some (ev_i (j_at (S.1 (a + 2)) 360 ((x0 * 6) + x1))))) S) : ev_Cv g m_X7_argument 2 0 [ev_o 7 a, ev_i x0, ev_i x1] S Q := by
  refine ev_enter (by decide) rfl rfl (Nat.le_of_ble_eq_true rfl) ?_
  show ev_E g m_X7_argument 2 0 0 [some (ev_o 7 a), some (ev_i x0), some (ev_i x1)] [] S Q
  refine ev_aload_n (ev_o 7 a) dX7_argument_0 rfl rfl ?_
  refine gf_7_1 dX7_argument_1 kw_184 ?_
  refine ev_iload_n (x0) dX7_argument_4 rfl ?_
  refine ev_bipush (6) dX7_argument_5 (by decide) ?_
  refine ev_imul dX7_argument_7 ?_
  refine ev_iload_n (x1) dX7_argument_8 rfl ?_
  refine ev_iadd dX7_argument_9 ?_
  refine ev_fN ms_X9_at 1 [ev_y 360 (a + 2), ev_i ((x0 * 6) + x1)] [] dX7_argument_10 (List.mem_of_getElem? (i := 19) rfl) rfl (by decide) (Nat.le_of_ble_eq_true rfl) (sp_X9_at 360 (a + 2) ((x0 * 6) + x1)) ?_ rfl
  exact ev_ireturn .int dX7_argument_13 rfl rfl hQ
set_option maxHeartbeats 4000000 in
set_option maxRecDepth 100000 in
theorem sp_X7_argument {g : ev_G} {S : ev_S} (a : Nat) (x0 : Int32) (x1 : Int32)  : ev_Fn g m_X7_argument 2 [ev_o 7 a, ev_i x0, ev_i x1] S (some (ev_i (j_at (S.1 (a + 2)) 360 ((x0 * 6) + x1)))) S := by
  intro Q hQ
  refine sg_X7_argument_0 a x0 x1 ?_
  exact hQ
set_option maxHeartbeats 4000000 in
set_option maxRecDepth 100000 in
theorem sg_X7_jump_0 {g : ev_G} {S : ev_S} {Q : ev_O → ev_S → Prop} (a : Nat) (x0 : Int32) (hQ : ((j_at (S.1 (a + 1)) 60 x0) = 7 → (
    ∀ S2 : ev_S, S2 = (j_put S (a + 4) 60 x0 (j_at (S.1 (a + 2)) 360 ((x0 * 6) + 0))) → (
      ((j_at (S2.1 (a + 2)) 360 ((x0 * 6) + 0)) ≤ 0 → (
        Q (.inl (some (ev_i ((j_at (S.1 (a + 3)) 60 x0) + 1)))) S2)) ∧
      (¬ ((j_at (S2.1 (a + 2)) 360 ((x0 * 6) + 0)) ≤ 0) → (
        Q (.inl (some (ev_i (x0 + 1)))) S2))))) ∧
  (¬ ((j_at (S.1 (a + 1)) 60 x0) = 7) → (
    ∀ S1 : ev_S, S1 = (j_put S (a + 4) 60 (j_at (S.1 (a + 3)) 60 x0) ((j_at (S.1 (a + 4)) 60 (j_at (S.1 (a + 3)) 60 x0)) - 1)) → (
      (((j_at (S.1 (a + 4)) 60 (j_at (S.1 (a + 3)) 60 x0)) - 1) ≤ 0 → (
        Q (.inl (some (ev_i (x0 + 1)))) S1)) ∧
      (¬ (((j_at (S.1 (a + 4)) 60 (j_at (S.1 (a + 3)) 60 x0)) - 1) ≤ 0) → (
        Q (.inl (some (ev_i ((j_at (S.1 (a + 3)) 60 x0) + 1)))) S1)))))) : ev_Cv g m_X7_jump 3 0 [ev_o 7 a, ev_i x0] S Q := by
  refine ev_enter (by decide) rfl rfl (Nat.le_of_ble_eq_true rfl) ?_
  show ev_E g m_X7_jump 3 0 0 [some (ev_o 7 a), some (ev_i x0), none, none] [] S Q
  refine ev_aload_n (ev_o 7 a) dX7_jump_0 rfl rfl ?_
  refine gf_7_2 dX7_jump_1 kw_185 ?_
  refine ev_iload_n (x0) dX7_jump_4 rfl ?_
  refine ev_fN ms_X9_at 1 [ev_y 60 (a + 3), ev_i x0] [] dX7_jump_5 (List.mem_of_getElem? (i := 19) rfl) rfl (by decide) (Nat.le_of_ble_eq_true rfl) (sp_X9_at 60 (a + 3) x0) ?_ rfl
  refine ev_istore_n dX7_jump_8 (Nat.le_of_ble_eq_true rfl) (ev_hw rfl) ?_
  show ev_E g m_X7_jump 3 0 9 [some (ev_o 7 a), some (ev_i x0), some (ev_i (j_at (S.1 (a + 3)) 60 x0)), none] [] S Q
  refine ev_aload_n (ev_o 7 a) dX7_jump_9 rfl rfl ?_
  refine ev_iload_n (x0) dX7_jump_10 rfl ?_
  refine ev_fV mv_X7_commandAt 2 7 [ev_i x0] [] dX7_jump_11 kw_829 rfl (by decide) rfl (by decide) (Nat.le_of_ble_eq_true rfl) (sp_X7_commandAt a x0) ?_ rfl
  refine ev_bipush (7) dX7_jump_14 (by decide) ?_
  refine ev_icmp_ne 52 dX7_jump_16 (by decide) (fun c1 => ?_) (fun c1 => ?_)
  · replace hQ := hQ.2 c1
    refine ev_aload_n (ev_o 7 a) dX7_jump_52 rfl rfl ?_
    refine gf_7_3 dX7_jump_53 kw_186 ?_
    refine ev_iload_n ((j_at (S.1 (a + 3)) 60 x0)) dX7_jump_56 rfl ?_
    refine ev_fN ms_X9_at 1 [ev_y 60 (a + 4), ev_i (j_at (S.1 (a + 3)) 60 x0)] [] dX7_jump_57 (List.mem_of_getElem? (i := 19) rfl) rfl (by decide) (Nat.le_of_ble_eq_true rfl) (sp_X9_at 60 (a + 4) (j_at (S.1 (a + 3)) 60 x0)) ?_ rfl
    refine ev_iconst (1) dX7_jump_60 rfl ?_
    refine ev_isub dX7_jump_61 ?_
    refine ev_istore_n dX7_jump_62 (Nat.le_of_ble_eq_true rfl) (ev_hw rfl) ?_
    show ev_E g m_X7_jump 3 0 63 [some (ev_o 7 a), some (ev_i x0), some (ev_i (j_at (S.1 (a + 3)) 60 x0)), some (ev_i ((j_at (S.1 (a + 4)) 60 (j_at (S.1 (a + 3)) 60 x0)) - 1))] [] S Q
    refine ev_aload_n (ev_o 7 a) dX7_jump_63 rfl rfl ?_
    refine gf_7_3 dX7_jump_64 kw_186 ?_
    refine ev_iload_n ((j_at (S.1 (a + 3)) 60 x0)) dX7_jump_67 rfl ?_
    refine ev_iload_n (((j_at (S.1 (a + 4)) 60 (j_at (S.1 (a + 3)) 60 x0)) - 1)) dX7_jump_68 rfl ?_
    refine ev_fNn ms_X9_put 1 [ev_y 60 (a + 4), ev_i (j_at (S.1 (a + 3)) 60 x0), ev_i ((j_at (S.1 (a + 4)) 60 (j_at (S.1 (a + 3)) 60 x0)) - 1)] [] dX7_jump_69 (List.mem_of_getElem? (i := 20) rfl) rfl (by decide) (Nat.le_of_ble_eq_true rfl) (sp_X9_put 60 (a + 4) (j_at (S.1 (a + 3)) 60 x0) ((j_at (S.1 (a + 4)) 60 (j_at (S.1 (a + 3)) 60 x0)) - 1)) ?_ rfl
    refine ev_sub hQ (fun S1 hS1 hQ => ?_)
    refine ev_E.goal (pc' := 72) (L' := [some (ev_o 7 a), some (ev_i x0), some (ev_i (j_at (S.1 (a + 3)) 60 x0)), some (ev_i ((j_at (S.1 (a + 4)) 60 (j_at (S.1 (a + 3)) 60 x0)) - 1))]) (K' := []) (S' := S1) ?_ rfl rfl rfl hS1
    refine ev_iload_n (((j_at (S.1 (a + 4)) 60 (j_at (S.1 (a + 3)) 60 x0)) - 1)) dX7_jump_72 rfl ?_
    refine ev_if_le 82 dX7_jump_73 (by decide) (fun c2 => ?_) (fun c2 => ?_)
    · replace hQ := hQ.1 c2
      refine ev_iload_n (x0) dX7_jump_82 rfl ?_
      refine ev_iconst (1) dX7_jump_83 rfl ?_
      refine ev_iadd dX7_jump_84 ?_
      exact ev_ireturn .int dX7_jump_85 rfl rfl hQ
    · replace hQ := hQ.2 c2
      refine ev_iload_n ((j_at (S.1 (a + 3)) 60 x0)) dX7_jump_76 rfl ?_
      refine ev_iconst (1) dX7_jump_77 rfl ?_
      refine ev_iadd dX7_jump_78 ?_
      refine ev_goto 85 dX7_jump_79 (by decide) ?_
      exact ev_ireturn .int dX7_jump_85 rfl rfl hQ
  · replace hQ := hQ.1 c1
    refine ev_aload_n (ev_o 7 a) dX7_jump_19 rfl rfl ?_
    refine gf_7_3 dX7_jump_20 kw_186 ?_
    refine ev_iload_n (x0) dX7_jump_23 rfl ?_
    refine ev_aload_n (ev_o 7 a) dX7_jump_24 rfl rfl ?_
    refine ev_iload_n (x0) dX7_jump_25 rfl ?_
    refine ev_iconst (0) dX7_jump_26 rfl ?_
    refine ev_fV mv_X7_argument 2 7 [ev_i x0, ev_i 0] [ev_i x0, ev_y 60 (a + 4)] dX7_jump_27 kw_837 rfl (by decide) rfl (by decide) (Nat.le_of_ble_eq_true rfl) (sp_X7_argument a x0 0) ?_ rfl
    refine ev_fNn ms_X9_put 1 [ev_y 60 (a + 4), ev_i x0, ev_i (j_at (S.1 (a + 2)) 360 ((x0 * 6) + 0))] [] dX7_jump_30 (List.mem_of_getElem? (i := 20) rfl) rfl (by decide) (Nat.le_of_ble_eq_true rfl) (sp_X9_put 60 (a + 4) x0 (j_at (S.1 (a + 2)) 360 ((x0 * 6) + 0))) ?_ rfl
    refine ev_sub hQ (fun S2 hS2 hQ => ?_)
    refine ev_E.goal (pc' := 33) (L' := [some (ev_o 7 a), some (ev_i x0), some (ev_i (j_at (S.1 (a + 3)) 60 x0)), none]) (K' := []) (S' := S2) ?_ rfl rfl rfl hS2
    refine ev_aload_n (ev_o 7 a) dX7_jump_33 rfl rfl ?_
    refine ev_iload_n (x0) dX7_jump_34 rfl ?_
    refine ev_iconst (0) dX7_jump_35 rfl ?_
    refine ev_fV mv_X7_argument 2 7 [ev_i x0, ev_i 0] [] dX7_jump_36 kw_837 rfl (by decide) rfl (by decide) (Nat.le_of_ble_eq_true rfl) (sp_X7_argument a x0 0) ?_ rfl
    refine ev_if_le 48 dX7_jump_39 (by decide) (fun c3 => ?_) (fun c3 => ?_)
    · replace hQ := hQ.1 c3
      refine ev_iload_n ((j_at (S.1 (a + 3)) 60 x0)) dX7_jump_48 rfl ?_
      refine ev_iconst (1) dX7_jump_49 rfl ?_
      refine ev_iadd dX7_jump_50 ?_
      exact ev_ireturn .int dX7_jump_51 rfl rfl hQ
    · replace hQ := hQ.2 c3
      refine ev_iload_n (x0) dX7_jump_42 rfl ?_
      refine ev_iconst (1) dX7_jump_43 rfl ?_
      refine ev_iadd dX7_jump_44 ?_
      refine ev_goto 51 dX7_jump_45 (by decide) ?_
      exact ev_ireturn .int dX7_jump_51 rfl rfl hQ
set_option maxHeartbeats 4000000 in
set_option maxRecDepth 100000 in
theorem sg_X9_isPlayer_0 {g : ev_G} {S : ev_S} {Q : ev_O → ev_S → Prop} (x0 : Int32) (hQ : (x0 = 0 → (
    Q (.inl (some (ev_i 1))) S)) ∧
  (¬ (x0 = 0) → (
    (x0 = 1 → (
      Q (.inl (some (ev_i 1))) S)) ∧
    (¬ (x0 = 1) → (
      Q (.inl (some (ev_i 0))) S))))) : ev_Cv g m_X9_isPlayer 1 0 [ev_i x0] S Q := by
  refine ev_enter (by decide) rfl rfl (Nat.le_of_ble_eq_true rfl) ?_
  show ev_E g m_X9_isPlayer 1 0 0 [some (ev_i x0)] [] S Q
  refine ev_iload_n (x0) dX9_isPlayer_0 rfl ?_
  refine ev_if_eq 9 dX9_isPlayer_1 (by decide) (fun c1 => ?_) (fun c1 => ?_)
  · replace hQ := hQ.1 c1
    refine ev_iconst (1) dX9_isPlayer_9 rfl ?_
    refine ev_goto 14 dX9_isPlayer_10 (by decide) ?_
    exact ev_ireturn .boolean dX9_isPlayer_14 rfl rfl hQ
  · replace hQ := hQ.2 c1
    refine ev_iload_n (x0) dX9_isPlayer_4 rfl ?_
    refine ev_iconst (1) dX9_isPlayer_5 rfl ?_
    refine ev_icmp_ne 13 dX9_isPlayer_6 (by decide) (fun c2 => ?_) (fun c2 => ?_)
    · replace hQ := hQ.2 c2
      refine ev_iconst (0) dX9_isPlayer_13 rfl ?_
      exact ev_ireturn .boolean dX9_isPlayer_14 rfl rfl hQ
    · replace hQ := hQ.1 c2
      refine ev_iconst (1) dX9_isPlayer_9 rfl ?_
      refine ev_goto 14 dX9_isPlayer_10 (by decide) ?_
      exact ev_ireturn .boolean dX9_isPlayer_14 rfl rfl hQ
def t_X9_isPlayer (x0 : Int32) : Bool := if x0 = 0 then (true) else (if x0 = 1 then (true) else (false))
set_option maxHeartbeats 4000000 in
set_option maxRecDepth 100000 in
theorem sp_X9_isPlayer {g : ev_G} {S : ev_S} (x0 : Int32)  : ev_Fn g m_X9_isPlayer 1 [ev_i x0] S (some (ev_i (if (t_X9_isPlayer x0) = true then 1 else 0))) S := by
  intro Q hQ
  refine sg_X9_isPlayer_0 x0 ?_
  unfold t_X9_isPlayer at hQ
  refine ⟨fun c1 => ?_, fun c1 => ?_⟩
  · rw [if_pos c1] at hQ
    exact hQ
  · rw [if_neg c1] at hQ
    refine ⟨fun c2 => ?_, fun c2 => ?_⟩
    · rw [if_pos c2] at hQ
      exact hQ
    · rw [if_neg c2] at hQ
      exact hQ
set_option maxHeartbeats 4000000 in
set_option maxRecDepth 100000 in
theorem sg_X0_size_0 {g : ev_G} {S : ev_S} {Q : ev_O → ev_S → Prop} (a : Nat) (hQ : Q (.inl (some (ev_i (S.1 a 4)))) S) : ev_Cv g m_X0_size 1 0 [ev_o 0 a] S Q := by
  refine ev_enter (by decide) rfl rfl (Nat.le_of_ble_eq_true rfl) ?_
  show ev_E g m_X0_size 1 0 0 [some (ev_o 0 a)] [] S Q
  refine ev_aload_n (ev_o 0 a) dX0_size_0 rfl rfl ?_
  refine gf_0_4 dX0_size_1 kw_243 ?_
  exact ev_ireturn .int dX0_size_4 rfl rfl hQ
set_option maxHeartbeats 4000000 in
set_option maxRecDepth 100000 in
theorem sp_X0_size {g : ev_G} {S : ev_S} (a : Nat)  : ev_Fn g m_X0_size 1 [ev_o 0 a] S (some (ev_i (S.1 a 4))) S := by
  intro Q hQ
  refine sg_X0_size_0 a ?_
  exact hQ
set_option maxHeartbeats 4000000 in
set_option maxRecDepth 100000 in
theorem sg_X2_isSquare_0 {g : ev_G} {S : ev_S} {Q : ev_O → ev_S → Prop} (a : Nat) (x0 : Int32) (hQ : (x0 < 0 → (
    Q (.inl (some (ev_i 0))) S)) ∧
  (¬ (x0 < 0) → (
    (((S.1 ((a_X2_deskOf a 0) + 1) 4) * (S.1 ((a_X2_deskOf a 0) + 1) 4)) ≤ x0 → (
      Q (.inl (some (ev_i 0))) S)) ∧
    (¬ (((S.1 ((a_X2_deskOf a 0) + 1) 4) * (S.1 ((a_X2_deskOf a 0) + 1) 4)) ≤ x0) → (
      Q (.inl (some (ev_i 1))) S))))) : ev_Cv g m_X2_isSquare 3 0 [ev_o 2 a, ev_i x0] S Q := by
  refine ev_enter (by decide) rfl rfl (Nat.le_of_ble_eq_true rfl) ?_
  show ev_E g m_X2_isSquare 3 0 0 [some (ev_o 2 a), some (ev_i x0), none] [] S Q
  refine ev_aload_n (ev_o 2 a) dX2_isSquare_0 rfl rfl ?_
  refine ev_iconst (0) dX2_isSquare_1 rfl ?_
  refine ev_fV mv_X2_boardOf 2 2 [ev_i 0] [] dX2_isSquare_2 kw_858 rfl (by decide) rfl (by decide) (Nat.le_of_ble_eq_true rfl) (sp_X2_boardOf a 0) ?_ rfl
  refine ev_fV mv_X0_size 1 0 [] [] dX2_isSquare_5 kw_859 rfl (by decide) rfl (by decide) (Nat.le_of_ble_eq_true rfl) (sp_X0_size ((a_X2_deskOf a 0) + 1)) ?_ rfl
  refine ev_istore_n dX2_isSquare_8 (Nat.le_of_ble_eq_true rfl) (ev_hw rfl) ?_
  show ev_E g m_X2_isSquare 3 0 9 [some (ev_o 2 a), some (ev_i x0), some (ev_i (S.1 ((a_X2_deskOf a 0) + 1) 4))] [] S Q
  refine ev_iload_n (x0) dX2_isSquare_9 rfl ?_
  refine ev_if_lt 24 dX2_isSquare_10 (by decide) (fun c1 => ?_) (fun c1 => ?_)
  · replace hQ := hQ.1 c1
    refine ev_iconst (0) dX2_isSquare_24 rfl ?_
    exact ev_ireturn .boolean dX2_isSquare_25 rfl rfl hQ
  · replace hQ := hQ.2 c1
    refine ev_iload_n (x0) dX2_isSquare_13 rfl ?_
    refine ev_iload_n ((S.1 ((a_X2_deskOf a 0) + 1) 4)) dX2_isSquare_14 rfl ?_
    refine ev_iload_n ((S.1 ((a_X2_deskOf a 0) + 1) 4)) dX2_isSquare_15 rfl ?_
    refine ev_imul dX2_isSquare_16 ?_
    refine ev_icmp_ge 24 dX2_isSquare_17 (by decide) (fun c2 => ?_) (fun c2 => ?_)
    · replace hQ := hQ.1 c2
      refine ev_iconst (0) dX2_isSquare_24 rfl ?_
      exact ev_ireturn .boolean dX2_isSquare_25 rfl rfl hQ
    · replace hQ := hQ.2 c2
      refine ev_iconst (1) dX2_isSquare_20 rfl ?_
      refine ev_goto 25 dX2_isSquare_21 (by decide) ?_
      exact ev_ireturn .boolean dX2_isSquare_25 rfl rfl hQ
def t_X2_isSquare (S : ev_S) (a : Nat) (x0 : Int32) : Bool := if x0 < 0 then (false) else (if ((S.1 ((a_X2_deskOf a 0) + 1) 4) * (S.1 ((a_X2_deskOf a 0) + 1) 4)) ≤ x0 then (false) else (true))
set_option maxHeartbeats 4000000 in
set_option maxRecDepth 100000 in
theorem sp_X2_isSquare {g : ev_G} {S : ev_S} (a : Nat) (x0 : Int32)  : ev_Fn g m_X2_isSquare 3 [ev_o 2 a, ev_i x0] S (some (ev_i (if (t_X2_isSquare S a x0) = true then 1 else 0))) S := by
  intro Q hQ
  refine sg_X2_isSquare_0 a x0 ?_
  unfold t_X2_isSquare at hQ
  refine ⟨fun c1 => ?_, fun c1 => ?_⟩
  · rw [if_pos c1] at hQ
    exact hQ
  · rw [if_neg c1] at hQ
    refine ⟨fun c2 => ?_, fun c2 => ?_⟩
    · rw [if_pos c2] at hQ
      exact hQ
    · rw [if_neg c2] at hQ
      exact hQ
set_option maxHeartbeats 4000000 in
set_option maxRecDepth 100000 in
theorem sg_X5_exists_0 {g : ev_G} {S : ev_S} {Q : ev_O → ev_S → Prop} (a : Nat) (x0 : Int32) (hQ : (x0 < 0 → (
    Q (.inl (some (ev_i 0))) S)) ∧
  (¬ (x0 < 0) → (
    ((S.1 a 3) ≤ x0 → (
      Q (.inl (some (ev_i 0))) S)) ∧
    (¬ ((S.1 a 3) ≤ x0) → (
      Q (.inl (some (ev_i 1))) S))))) : ev_Cv g m_X5_exists 1 0 [ev_o 5 a, ev_i x0] S Q := by
  refine ev_enter (by decide) rfl rfl (Nat.le_of_ble_eq_true rfl) ?_
  show ev_E g m_X5_exists 1 0 0 [some (ev_o 5 a), some (ev_i x0)] [] S Q
  refine ev_iload_n (x0) dX5_exists_0 rfl ?_
  refine ev_if_lt 16 dX5_exists_1 (by decide) (fun c1 => ?_) (fun c1 => ?_)
  · replace hQ := hQ.1 c1
    refine ev_iconst (0) dX5_exists_16 rfl ?_
    exact ev_ireturn .boolean dX5_exists_17 rfl rfl hQ
  · replace hQ := hQ.2 c1
    refine ev_iload_n (x0) dX5_exists_4 rfl ?_
    refine ev_aload_n (ev_o 5 a) dX5_exists_5 rfl rfl ?_
    refine gf_5_3 dX5_exists_6 kw_316 ?_
    refine ev_icmp_ge 16 dX5_exists_9 (by decide) (fun c2 => ?_) (fun c2 => ?_)
    · replace hQ := hQ.1 c2
      refine ev_iconst (0) dX5_exists_16 rfl ?_
      exact ev_ireturn .boolean dX5_exists_17 rfl rfl hQ
    · replace hQ := hQ.2 c2
      refine ev_iconst (1) dX5_exists_12 rfl ?_
      refine ev_goto 17 dX5_exists_13 (by decide) ?_
      exact ev_ireturn .boolean dX5_exists_17 rfl rfl hQ
def t_X5_exists (S : ev_S) (a : Nat) (x0 : Int32) : Bool := if x0 < 0 then (false) else (if (S.1 a 3) ≤ x0 then (false) else (true))
set_option maxHeartbeats 4000000 in
set_option maxRecDepth 100000 in
theorem sp_X5_exists {g : ev_G} {S : ev_S} (a : Nat) (x0 : Int32)  : ev_Fn g m_X5_exists 1 [ev_o 5 a, ev_i x0] S (some (ev_i (if (t_X5_exists S a x0) = true then 1 else 0))) S := by
  intro Q hQ
  refine sg_X5_exists_0 a x0 ?_
  unfold t_X5_exists at hQ
  refine ⟨fun c1 => ?_, fun c1 => ?_⟩
  · rw [if_pos c1] at hQ
    exact hQ
  · rw [if_neg c1] at hQ
    refine ⟨fun c2 => ?_, fun c2 => ?_⟩
    · rw [if_pos c2] at hQ
      exact hQ
    · rw [if_neg c2] at hQ
      exact hQ
set_option maxHeartbeats 4000000 in
set_option maxRecDepth 100000 in
theorem sg_X0_isFinished_0 {g : ev_G} {S : ev_S} {Q : ev_O → ev_S → Prop} (a : Nat) (hQ : ((S.1 a 6) = (S.1 a 5) → (
    Q (.inl (some (ev_i 1))) S)) ∧
  (¬ ((S.1 a 6) = (S.1 a 5)) → (
    ((j_at (S.1 (a + 2)) 2 0) = 0 → (
      Q (.inl (some (ev_i 1))) S)) ∧
    (¬ ((j_at (S.1 (a + 2)) 2 0) = 0) → (
      ((j_at (S.1 (a + 2)) 2 1) = 0 → (
        Q (.inl (some (ev_i 1))) S)) ∧
      (¬ ((j_at (S.1 (a + 2)) 2 1) = 0) → (
        Q (.inl (some (ev_i 0))) S))))))) : ev_Cv g m_X0_isFinished 3 0 [ev_o 0 a] S Q := by
  refine ev_enter (by decide) rfl rfl (Nat.le_of_ble_eq_true rfl) ?_
  show ev_E g m_X0_isFinished 3 0 0 [some (ev_o 0 a)] [] S Q
  refine ev_aload_n (ev_o 0 a) dX0_isFinished_0 rfl rfl ?_
  refine gf_0_6 dX0_isFinished_1 kw_245 ?_
  refine ev_aload_n (ev_o 0 a) dX0_isFinished_4 rfl rfl ?_
  refine gf_0_5 dX0_isFinished_5 kw_244 ?_
  refine ev_icmp_eq 27 dX0_isFinished_8 (by decide) (fun c1 => ?_) (fun c1 => ?_)
  · replace hQ := hQ.1 c1
    refine ev_iconst (1) dX0_isFinished_27 rfl ?_
    refine ev_goto 32 dX0_isFinished_28 (by decide) ?_
    exact ev_ireturn .boolean dX0_isFinished_32 rfl rfl hQ
  · replace hQ := hQ.2 c1
    refine ev_aload_n (ev_o 0 a) dX0_isFinished_11 rfl rfl ?_
    refine ev_iconst (0) dX0_isFinished_12 rfl ?_
    refine ev_fV mv_X0_bishopsOf 2 0 [ev_i 0] [] dX0_isFinished_13 kw_876 rfl (by decide) rfl (by decide) (Nat.le_of_ble_eq_true rfl) (sp_X0_bishopsOf a 0) ?_ rfl
    refine ev_if_eq 27 dX0_isFinished_16 (by decide) (fun c2 => ?_) (fun c2 => ?_)
    · replace hQ := hQ.1 c2
      refine ev_iconst (1) dX0_isFinished_27 rfl ?_
      refine ev_goto 32 dX0_isFinished_28 (by decide) ?_
      exact ev_ireturn .boolean dX0_isFinished_32 rfl rfl hQ
    · replace hQ := hQ.2 c2
      refine ev_aload_n (ev_o 0 a) dX0_isFinished_19 rfl rfl ?_
      refine ev_iconst (1) dX0_isFinished_20 rfl ?_
      refine ev_fV mv_X0_bishopsOf 2 0 [ev_i 1] [] dX0_isFinished_21 kw_876 rfl (by decide) rfl (by decide) (Nat.le_of_ble_eq_true rfl) (sp_X0_bishopsOf a 1) ?_ rfl
      refine ev_if_ne 31 dX0_isFinished_24 (by decide) (fun c3 => ?_) (fun c3 => ?_)
      · replace hQ := hQ.2 c3
        refine ev_iconst (0) dX0_isFinished_31 rfl ?_
        exact ev_ireturn .boolean dX0_isFinished_32 rfl rfl hQ
      · replace hQ := hQ.1 c3
        refine ev_iconst (1) dX0_isFinished_27 rfl ?_
        refine ev_goto 32 dX0_isFinished_28 (by decide) ?_
        exact ev_ireturn .boolean dX0_isFinished_32 rfl rfl hQ
def t_X0_isFinished (S : ev_S) (a : Nat) : Bool := if (S.1 a 6) = (S.1 a 5) then (true) else (if (j_at (S.1 (a + 2)) 2 0) = 0 then (true) else (if (j_at (S.1 (a + 2)) 2 1) = 0 then (true) else (false)))
set_option maxHeartbeats 4000000 in
set_option maxRecDepth 100000 in
theorem sp_X0_isFinished {g : ev_G} {S : ev_S} (a : Nat)  : ev_Fn g m_X0_isFinished 3 [ev_o 0 a] S (some (ev_i (if (t_X0_isFinished S a) = true then 1 else 0))) S := by
  intro Q hQ
  refine sg_X0_isFinished_0 a ?_
  unfold t_X0_isFinished at hQ
  refine ⟨fun c1 => ?_, fun c1 => ?_⟩
  · rw [if_pos c1] at hQ
    exact hQ
  · rw [if_neg c1] at hQ
    refine ⟨fun c2 => ?_, fun c2 => ?_⟩
    · rw [if_pos c2] at hQ
      exact hQ
    · rw [if_neg c2] at hQ
      refine ⟨fun c3 => ?_, fun c3 => ?_⟩
      · rw [if_pos c3] at hQ
        exact hQ
      · rw [if_neg c3] at hQ
        exact hQ
set_option maxHeartbeats 4000000 in
set_option maxRecDepth 100000 in
theorem sg_X0_nextNumber_0 {g : ev_G} {S : ev_S} {Q : ev_O → ev_S → Prop} (a : Nat) (hQ : Q (.inl (some (ev_i ((S.1 a 6) + 1)))) S) : ev_Cv g m_X0_nextNumber 1 0 [ev_o 0 a] S Q := by
  refine ev_enter (by decide) rfl rfl (Nat.le_of_ble_eq_true rfl) ?_
  show ev_E g m_X0_nextNumber 1 0 0 [some (ev_o 0 a)] [] S Q
  refine ev_aload_n (ev_o 0 a) dX0_nextNumber_0 rfl rfl ?_
  refine gf_0_6 dX0_nextNumber_1 kw_245 ?_
  refine ev_iconst (1) dX0_nextNumber_4 rfl ?_
  refine ev_iadd dX0_nextNumber_5 ?_
  exact ev_ireturn .int dX0_nextNumber_6 rfl rfl hQ
set_option maxHeartbeats 4000000 in
set_option maxRecDepth 100000 in
theorem sp_X0_nextNumber {g : ev_G} {S : ev_S} (a : Nat)  : ev_Fn g m_X0_nextNumber 1 [ev_o 0 a] S (some (ev_i ((S.1 a 6) + 1))) S := by
  intro Q hQ
  refine sg_X0_nextNumber_0 a ?_
  exact hQ
set_option maxHeartbeats 4000000 in
set_option maxRecDepth 100000 in
theorem sg_X9_moverOf_0 {g : ev_G} {S : ev_S} {Q : ev_O → ev_S → Prop} (x0 : Int32) (hQ : ((ev_rem x0 2) = 1 → (
    Q (.inl (some (ev_i 0))) S)) ∧
  (¬ ((ev_rem x0 2) = 1) → (
    Q (.inl (some (ev_i 1))) S))) : ev_Cv g m_X9_moverOf 1 0 [ev_i x0] S Q := by
  refine ev_enter (by decide) rfl rfl (Nat.le_of_ble_eq_true rfl) ?_
  show ev_E g m_X9_moverOf 1 0 0 [some (ev_i x0)] [] S Q
  refine ev_iload_n (x0) dX9_moverOf_0 rfl ?_
  refine ev_iconst (2) dX9_moverOf_1 rfl ?_
  refine ev_irem dX9_moverOf_2 (by decide) ?_
  refine ev_iconst (1) dX9_moverOf_3 rfl ?_
  refine ev_icmp_ne 11 dX9_moverOf_4 (by decide) (fun c1 => ?_) (fun c1 => ?_)
  · replace hQ := hQ.2 c1
    refine ev_iconst (1) dX9_moverOf_11 rfl ?_
    exact ev_ireturn .int dX9_moverOf_12 rfl rfl hQ
  · replace hQ := hQ.1 c1
    refine ev_iconst (0) dX9_moverOf_7 rfl ?_
    refine ev_goto 12 dX9_moverOf_8 (by decide) ?_
    exact ev_ireturn .int dX9_moverOf_12 rfl rfl hQ
def f_X9_moverOf (x0 : Int32) : Int32 := if (ev_rem x0 2) = 1 then (0) else (1)
set_option maxHeartbeats 4000000 in
set_option maxRecDepth 100000 in
theorem sp_X9_moverOf {g : ev_G} {S : ev_S} (x0 : Int32)  : ev_Fn g m_X9_moverOf 1 [ev_i x0] S (some (ev_i (f_X9_moverOf x0))) S := by
  intro Q hQ
  refine sg_X9_moverOf_0 x0 ?_
  unfold f_X9_moverOf at hQ
  refine ⟨fun c1 => ?_, fun c1 => ?_⟩
  · rw [if_pos c1] at hQ
    exact hQ
  · rw [if_neg c1] at hQ
    exact hQ
set_option maxHeartbeats 4000000 in
set_option maxRecDepth 100000 in
theorem sg_X1_mayPlay_0 {g : ev_G} {S : ev_S} {Q : ev_O → ev_S → Prop} (a : Nat) (hQ : ((t_X0_isFinished S (a + 1)) = true → (
    Q (.inl (some (ev_i 0))) S)) ∧
  (¬ ((t_X0_isFinished S (a + 1)) = true) → (
    ((f_X9_moverOf ((S.1 (a + 1) 6) + 1)) = (S.1 a 0) → (
      Q (.inl (some (ev_i 1))) S)) ∧
    (¬ ((f_X9_moverOf ((S.1 (a + 1) 6) + 1)) = (S.1 a 0)) → (
      Q (.inl (some (ev_i 0))) S))))) : ev_Cv g m_X1_mayPlay 4 0 [ev_o 1 a] S Q := by
  refine ev_enter (by decide) rfl rfl (Nat.le_of_ble_eq_true rfl) ?_
  show ev_E g m_X1_mayPlay 4 0 0 [some (ev_o 1 a)] [] S Q
  refine ev_aload_n (ev_o 1 a) dX1_mayPlay_0 rfl rfl ?_
  refine gf_1_1 dX1_mayPlay_1 kw_268 ?_
  refine ev_fV mv_X0_isFinished 3 0 [] [] dX1_mayPlay_4 kw_872 rfl (by decide) rfl (by decide) (Nat.le_of_ble_eq_true rfl) (sp_X0_isFinished (a + 1)) ?_ rfl
  by_cases c1 : (t_X0_isFinished S (a + 1)) = true
  · rw [if_pos c1]
    replace hQ := hQ.1 c1
    refine ev_if_ne 31 dX1_mayPlay_7 (by decide) (fun _ => ?_) (fun h9 => absurd h9 (by decide : ¬ ((1 : Int32) = 0)))
    refine ev_iconst (0) dX1_mayPlay_31 rfl ?_
    exact ev_ireturn .boolean dX1_mayPlay_32 rfl rfl hQ
  · rw [if_neg c1]
    replace hQ := hQ.2 c1
    refine ev_if_ne 31 dX1_mayPlay_7 (by decide) (fun h9 => absurd (by decide : ((0 : Int32) = 0)) h9) (fun _ => ?_)
    refine ev_aload_n (ev_o 1 a) dX1_mayPlay_10 rfl rfl ?_
    refine gf_1_1 dX1_mayPlay_11 kw_268 ?_
    refine ev_fV mv_X0_nextNumber 1 0 [] [] dX1_mayPlay_14 kw_877 rfl (by decide) rfl (by decide) (Nat.le_of_ble_eq_true rfl) (sp_X0_nextNumber (a + 1)) ?_ rfl
    refine ev_fN ms_X9_moverOf 1 [ev_i ((S.1 (a + 1) 6) + 1)] [] dX1_mayPlay_17 (List.mem_of_getElem? (i := 22) rfl) rfl (by decide) (Nat.le_of_ble_eq_true rfl) (sp_X9_moverOf ((S.1 (a + 1) 6) + 1)) ?_ rfl
    refine ev_aload_n (ev_o 1 a) dX1_mayPlay_20 rfl rfl ?_
    refine gf_1_0 dX1_mayPlay_21 kw_267 ?_
    refine ev_icmp_ne 31 dX1_mayPlay_24 (by decide) (fun c2 => ?_) (fun c2 => ?_)
    · replace hQ := hQ.2 c2
      refine ev_iconst (0) dX1_mayPlay_31 rfl ?_
      exact ev_ireturn .boolean dX1_mayPlay_32 rfl rfl hQ
    · replace hQ := hQ.1 c2
      refine ev_iconst (1) dX1_mayPlay_27 rfl ?_
      refine ev_goto 32 dX1_mayPlay_28 (by decide) ?_
      exact ev_ireturn .boolean dX1_mayPlay_32 rfl rfl hQ
def t_X1_mayPlay (S : ev_S) (a : Nat) : Bool := if (t_X0_isFinished S (a + 1)) = true then (false) else (if (f_X9_moverOf ((S.1 (a + 1) 6) + 1)) = (S.1 a 0) then (true) else (false))
set_option maxHeartbeats 4000000 in
set_option maxRecDepth 100000 in
theorem sp_X1_mayPlay {g : ev_G} {S : ev_S} (a : Nat)  : ev_Fn g m_X1_mayPlay 4 [ev_o 1 a] S (some (ev_i (if (t_X1_mayPlay S a) = true then 1 else 0))) S := by
  intro Q hQ
  refine sg_X1_mayPlay_0 a ?_
  unfold t_X1_mayPlay at hQ
  refine ⟨fun c1 => ?_, fun c1 => ?_⟩
  · rw [if_pos c1] at hQ
    exact hQ
  · rw [if_neg c1] at hQ
    refine ⟨fun c2 => ?_, fun c2 => ?_⟩
    · rw [if_pos c2] at hQ
      exact hQ
    · rw [if_neg c2] at hQ
      exact hQ
set_option maxHeartbeats 4000000 in
set_option maxRecDepth 100000 in
theorem sg_X6_isFull_0 {g : ev_G} {S : ev_S} {Q : ev_O → ev_S → Prop} (a : Nat) (hQ : ((S.1 a 13) < 80 → (
    Q (.inl (some (ev_i 0))) S)) ∧
  (¬ ((S.1 a 13) < 80) → (
    Q (.inl (some (ev_i 1))) S))) : ev_Cv g m_X6_isFull 1 0 [ev_o 6 a] S Q := by
  refine ev_enter (by decide) rfl rfl (Nat.le_of_ble_eq_true rfl) ?_
  show ev_E g m_X6_isFull 1 0 0 [some (ev_o 6 a)] [] S Q
  refine ev_aload_n (ev_o 6 a) dX6_isFull_0 rfl rfl ?_
  refine gf_6_13 dX6_isFull_1 kw_342 ?_
  refine ev_bipush (80) dX6_isFull_4 (by decide) ?_
  refine ev_icmp_lt 13 dX6_isFull_6 (by decide) (fun c1 => ?_) (fun c1 => ?_)
  · replace hQ := hQ.1 c1
    refine ev_iconst (0) dX6_isFull_13 rfl ?_
    exact ev_ireturn .boolean dX6_isFull_14 rfl rfl hQ
  · replace hQ := hQ.2 c1
    refine ev_iconst (1) dX6_isFull_9 rfl ?_
    refine ev_goto 14 dX6_isFull_10 (by decide) ?_
    exact ev_ireturn .boolean dX6_isFull_14 rfl rfl hQ
set_option maxHeartbeats 4000000 in
set_option maxRecDepth 100000 in
theorem sp_X6_isFull {g : ev_G} {S : ev_S} (a : Nat)  : ev_Fn g m_X6_isFull 1 [ev_o 6 a] S (some (ev_i (if (S.1 a 13) < 80 then 0 else 1))) S := by
  intro Q hQ
  refine sg_X6_isFull_0 a ?_
  refine ⟨fun c1 => ?_, fun c1 => ?_⟩
  · rw [if_pos c1] at hQ
    exact hQ
  · rw [if_neg c1] at hQ
    exact hQ
set_option maxHeartbeats 4000000 in
set_option maxRecDepth 100000 in
theorem sg_X0_canReach_0 {g : ev_G} {S : ev_S} {Q : ev_O → ev_S → Prop} (a : Nat) (x0 : Int32) (x1 : Int32) (hQ : ((j_at (S.1 (a + 1)) 64 x0) = (-1) → (
    Q (.inl (some (ev_i 0))) S)) ∧
  (¬ ((j_at (S.1 (a + 1)) 64 x0) = (-1)) → (
    ((j_at (S.1 (a + 1)) 64 x0) = (j_at (S.1 (a + 1)) 64 x1) → (
      Q (.inl (some (ev_i 0))) S)) ∧
    (¬ ((j_at (S.1 (a + 1)) 64 x0) = (j_at (S.1 (a + 1)) 64 x1)) → (
      (4 ≤ (S.1 a 4) → (
        (¬ (S.1 a 4) = 0) ∧ (
          ((ev_abs ((x1 / (S.1 a 4)) - (x0 / (S.1 a 4)))) = 0 → (
            Q (.inl (some (ev_i 0))) S)) ∧
          (¬ ((ev_abs ((x1 / (S.1 a 4)) - (x0 / (S.1 a 4)))) = 0) → (
            ((ev_abs ((x1 / (S.1 a 4)) - (x0 / (S.1 a 4)))) = (ev_abs ((ev_rem x1 (S.1 a 4)) - (ev_rem x0 (S.1 a 4)))) → (
              (((x1 / (S.1 a 4)) - (x0 / (S.1 a 4))) ≤ 0 → (
                (((ev_rem x1 (S.1 a 4)) - (ev_rem x0 (S.1 a 4))) ≤ 0 → (
                  ev_E g m_X0_canReach 3 0 117 [some (ev_o 0 a), some (ev_i x0), none, none, none, none, some (ev_i (ev_abs ((x1 / (S.1 a 4)) - (x0 / (S.1 a 4))))), some (ev_i ((-(S.1 a 4)) + (-1))), some (ev_i 1)] [] S Q)) ∧
                (¬ (((ev_rem x1 (S.1 a 4)) - (ev_rem x0 (S.1 a 4))) ≤ 0) → (
                  ev_E g m_X0_canReach 3 0 117 [some (ev_o 0 a), some (ev_i x0), none, none, none, none, some (ev_i (ev_abs ((x1 / (S.1 a 4)) - (x0 / (S.1 a 4))))), some (ev_i ((-(S.1 a 4)) + 1)), some (ev_i 1)] [] S Q)))) ∧
              (¬ (((x1 / (S.1 a 4)) - (x0 / (S.1 a 4))) ≤ 0) → (
                (((ev_rem x1 (S.1 a 4)) - (ev_rem x0 (S.1 a 4))) ≤ 0 → (
                  ev_E g m_X0_canReach 3 0 117 [some (ev_o 0 a), some (ev_i x0), none, none, none, none, some (ev_i (ev_abs ((x1 / (S.1 a 4)) - (x0 / (S.1 a 4))))), some (ev_i ((S.1 a 4) + (-1))), some (ev_i 1)] [] S Q)) ∧
                (¬ (((ev_rem x1 (S.1 a 4)) - (ev_rem x0 (S.1 a 4))) ≤ 0) → (
                  ev_E g m_X0_canReach 3 0 117 [some (ev_o 0 a), some (ev_i x0), none, none, none, none, some (ev_i (ev_abs ((x1 / (S.1 a 4)) - (x0 / (S.1 a 4))))), some (ev_i ((S.1 a 4) + 1)), some (ev_i 1)] [] S Q)))))) ∧
            (¬ ((ev_abs ((x1 / (S.1 a 4)) - (x0 / (S.1 a 4)))) = (ev_abs ((ev_rem x1 (S.1 a 4)) - (ev_rem x0 (S.1 a 4))))) → (
              Q (.inl (some (ev_i 0))) S))))))) ∧
      (¬ (4 ≤ (S.1 a 4)) → (
        Q (.inl (some (ev_i 0))) S))))))) : ev_Cv g m_X0_canReach 3 0 [ev_o 0 a, ev_i x0, ev_i x1] S Q := by
  refine ev_enter (by decide) rfl rfl (Nat.le_of_ble_eq_true rfl) ?_
  show ev_E g m_X0_canReach 3 0 0 [some (ev_o 0 a), some (ev_i x0), some (ev_i x1), none, none, none, none, none, none] [] S Q
  refine ev_aload_n (ev_o 0 a) dX0_canReach_0 rfl rfl ?_
  refine ev_iload_n (x0) dX0_canReach_1 rfl ?_
  refine ev_fV mv_X0_ownerOn 2 0 [ev_i x0] [] dX0_canReach_2 kw_893 rfl (by decide) rfl (by decide) (Nat.le_of_ble_eq_true rfl) (sp_X0_ownerOn a x0) ?_ rfl
  refine ev_istore_n dX0_canReach_5 (Nat.le_of_ble_eq_true rfl) (ev_hw rfl) ?_
  show ev_E g m_X0_canReach 3 0 6 [some (ev_o 0 a), some (ev_i x0), some (ev_i x1), some (ev_i (j_at (S.1 (a + 1)) 64 x0)), none, none, none, none, none] [] S Q
  refine ev_iload_n ((j_at (S.1 (a + 1)) 64 x0)) dX0_canReach_6 rfl ?_
  refine ev_iconst (-1) dX0_canReach_7 rfl ?_
  refine ev_icmp_eq 28 dX0_canReach_8 (by decide) (fun c1 => ?_) (fun c1 => ?_)
  · replace hQ := hQ.1 c1
    refine ev_iconst (0) dX0_canReach_28 rfl ?_
    exact ev_ireturn .boolean dX0_canReach_29 rfl rfl hQ
  · replace hQ := hQ.2 c1
    refine ev_iload_n ((j_at (S.1 (a + 1)) 64 x0)) dX0_canReach_11 rfl ?_
    refine ev_aload_n (ev_o 0 a) dX0_canReach_12 rfl rfl ?_
    refine ev_iload_n (x1) dX0_canReach_13 rfl ?_
    refine ev_fV mv_X0_ownerOn 2 0 [ev_i x1] [ev_i (j_at (S.1 (a + 1)) 64 x0)] dX0_canReach_14 kw_893 rfl (by decide) rfl (by decide) (Nat.le_of_ble_eq_true rfl) (sp_X0_ownerOn a x1) ?_ rfl
    refine ev_icmp_eq 28 dX0_canReach_17 (by decide) (fun c2 => ?_) (fun c2 => ?_)
    · replace hQ := hQ.1 c2
      refine ev_iconst (0) dX0_canReach_28 rfl ?_
      exact ev_ireturn .boolean dX0_canReach_29 rfl rfl hQ
    · replace hQ := hQ.2 c2
      refine ev_aload_n (ev_o 0 a) dX0_canReach_20 rfl rfl ?_
      refine gf_0_4 dX0_canReach_21 kw_243 ?_
      refine ev_iconst (4) dX0_canReach_24 rfl ?_
      refine ev_icmp_ge 30 dX0_canReach_25 (by decide) (fun c3 => ?_) (fun c3 => ?_)
      · replace hQ := hQ.1 c3
        refine ev_iload_n (x1) dX0_canReach_30 rfl ?_
        refine ev_aload_n (ev_o 0 a) dX0_canReach_31 rfl rfl ?_
        refine gf_0_4 dX0_canReach_32 kw_243 ?_
        obtain ⟨h1, hQ⟩ := hQ
        refine ev_idiv dX0_canReach_35 h1 ?_
        refine ev_iload_n (x0) dX0_canReach_36 rfl ?_
        refine ev_aload_n (ev_o 0 a) dX0_canReach_37 rfl rfl ?_
        refine gf_0_4 dX0_canReach_38 kw_243 ?_
        refine ev_idiv dX0_canReach_41 h1 ?_
        refine ev_isub dX0_canReach_42 ?_
        refine ev_istore dX0_canReach_43 (Nat.le_of_ble_eq_true rfl) (ev_hw rfl) ?_
        show ev_E g m_X0_canReach 3 0 45 [some (ev_o 0 a), some (ev_i x0), some (ev_i x1), some (ev_i (j_at (S.1 (a + 1)) 64 x0)), some (ev_i ((x1 / (S.1 a 4)) - (x0 / (S.1 a 4)))), none, none, none, none] [] S Q
        refine ev_iload_n (x1) dX0_canReach_45 rfl ?_
        refine ev_aload_n (ev_o 0 a) dX0_canReach_46 rfl rfl ?_
        refine gf_0_4 dX0_canReach_47 kw_243 ?_
        refine ev_irem dX0_canReach_50 h1 ?_
        refine ev_iload_n (x0) dX0_canReach_51 rfl ?_
        refine ev_aload_n (ev_o 0 a) dX0_canReach_52 rfl rfl ?_
        refine gf_0_4 dX0_canReach_53 kw_243 ?_
        refine ev_irem dX0_canReach_56 h1 ?_
        refine ev_isub dX0_canReach_57 ?_
        refine ev_istore dX0_canReach_58 (Nat.le_of_ble_eq_true rfl) (ev_hw rfl) ?_
        show ev_E g m_X0_canReach 3 0 60 [some (ev_o 0 a), some (ev_i x0), some (ev_i x1), some (ev_i (j_at (S.1 (a + 1)) 64 x0)), some (ev_i ((x1 / (S.1 a 4)) - (x0 / (S.1 a 4)))), some (ev_i ((ev_rem x1 (S.1 a 4)) - (ev_rem x0 (S.1 a 4)))), none, none, none] [] S Q
        refine ev_iload (((x1 / (S.1 a 4)) - (x0 / (S.1 a 4)))) dX0_canReach_60 rfl ?_
        refine ev_mathAbs dX0_canReach_62 kw_894 kw_895 kw_123 kw_896 (Nat.le_of_ble_eq_true rfl) ?_
        refine ev_istore dX0_canReach_65 (Nat.le_of_ble_eq_true rfl) (ev_hw rfl) ?_
        show ev_E g m_X0_canReach 3 0 67 [some (ev_o 0 a), some (ev_i x0), some (ev_i x1), some (ev_i (j_at (S.1 (a + 1)) 64 x0)), some (ev_i ((x1 / (S.1 a 4)) - (x0 / (S.1 a 4)))), some (ev_i ((ev_rem x1 (S.1 a 4)) - (ev_rem x0 (S.1 a 4)))), some (ev_i (ev_abs ((x1 / (S.1 a 4)) - (x0 / (S.1 a 4))))), none, none] [] S Q
        refine ev_iload ((ev_abs ((x1 / (S.1 a 4)) - (x0 / (S.1 a 4))))) dX0_canReach_67 rfl ?_
        refine ev_if_eq 82 dX0_canReach_69 (by decide) (fun c4 => ?_) (fun c4 => ?_)
        · replace hQ := hQ.1 c4
          refine ev_iconst (0) dX0_canReach_82 rfl ?_
          exact ev_ireturn .boolean dX0_canReach_83 rfl rfl hQ
        · replace hQ := hQ.2 c4
          refine ev_iload ((ev_abs ((x1 / (S.1 a 4)) - (x0 / (S.1 a 4))))) dX0_canReach_72 rfl ?_
          refine ev_iload (((ev_rem x1 (S.1 a 4)) - (ev_rem x0 (S.1 a 4)))) dX0_canReach_74 rfl ?_
          refine ev_mathAbs dX0_canReach_76 kw_894 kw_895 kw_123 kw_896 (Nat.le_of_ble_eq_true rfl) ?_
          refine ev_icmp_eq 84 dX0_canReach_79 (by decide) (fun c5 => ?_) (fun c5 => ?_)
          · replace hQ := hQ.1 c5
            refine ev_iload (((x1 / (S.1 a 4)) - (x0 / (S.1 a 4)))) dX0_canReach_84 rfl ?_
            refine ev_if_le 96 dX0_canReach_86 (by decide) (fun c6 => ?_) (fun c6 => ?_)
            · replace hQ := hQ.1 c6
              refine ev_aload_n (ev_o 0 a) dX0_canReach_96 rfl rfl ?_
              refine gf_0_4 dX0_canReach_97 kw_243 ?_
              refine ev_ineg dX0_canReach_100 ?_
              refine ev_iload (((ev_rem x1 (S.1 a 4)) - (ev_rem x0 (S.1 a 4)))) dX0_canReach_101 rfl ?_
              refine ev_if_le 110 dX0_canReach_103 (by decide) (fun c7 => ?_) (fun c7 => ?_)
              · replace hQ := hQ.1 c7
                refine ev_iconst (-1) dX0_canReach_110 rfl ?_
                refine ev_iadd dX0_canReach_111 ?_
                refine ev_istore dX0_canReach_112 (Nat.le_of_ble_eq_true rfl) (ev_hw rfl) ?_
                show ev_E g m_X0_canReach 3 0 114 [some (ev_o 0 a), some (ev_i x0), some (ev_i x1), some (ev_i (j_at (S.1 (a + 1)) 64 x0)), some (ev_i ((x1 / (S.1 a 4)) - (x0 / (S.1 a 4)))), some (ev_i ((ev_rem x1 (S.1 a 4)) - (ev_rem x0 (S.1 a 4)))), some (ev_i (ev_abs ((x1 / (S.1 a 4)) - (x0 / (S.1 a 4))))), some (ev_i ((-(S.1 a 4)) + (-1))), none] [] S Q
                refine ev_iconst (1) dX0_canReach_114 rfl ?_
                refine ev_istore dX0_canReach_115 (Nat.le_of_ble_eq_true rfl) (ev_hw rfl) ?_
                show ev_E g m_X0_canReach 3 0 117 [some (ev_o 0 a), some (ev_i x0), some (ev_i x1), some (ev_i (j_at (S.1 (a + 1)) 64 x0)), some (ev_i ((x1 / (S.1 a 4)) - (x0 / (S.1 a 4)))), some (ev_i ((ev_rem x1 (S.1 a 4)) - (ev_rem x0 (S.1 a 4)))), some (ev_i (ev_abs ((x1 / (S.1 a 4)) - (x0 / (S.1 a 4))))), some (ev_i ((-(S.1 a 4)) + (-1))), some (ev_i 1)] [] S Q
                refine ev_fgm [true, true, false, false, false, false, true, true, true] ?_
                exact hQ
              · replace hQ := hQ.2 c7
                refine ev_iconst (1) dX0_canReach_106 rfl ?_
                refine ev_goto 111 dX0_canReach_107 (by decide) ?_
                refine ev_iadd dX0_canReach_111 ?_
                refine ev_istore dX0_canReach_112 (Nat.le_of_ble_eq_true rfl) (ev_hw rfl) ?_
                show ev_E g m_X0_canReach 3 0 114 [some (ev_o 0 a), some (ev_i x0), some (ev_i x1), some (ev_i (j_at (S.1 (a + 1)) 64 x0)), some (ev_i ((x1 / (S.1 a 4)) - (x0 / (S.1 a 4)))), some (ev_i ((ev_rem x1 (S.1 a 4)) - (ev_rem x0 (S.1 a 4)))), some (ev_i (ev_abs ((x1 / (S.1 a 4)) - (x0 / (S.1 a 4))))), some (ev_i ((-(S.1 a 4)) + 1)), none] [] S Q
                refine ev_iconst (1) dX0_canReach_114 rfl ?_
                refine ev_istore dX0_canReach_115 (Nat.le_of_ble_eq_true rfl) (ev_hw rfl) ?_
                show ev_E g m_X0_canReach 3 0 117 [some (ev_o 0 a), some (ev_i x0), some (ev_i x1), some (ev_i (j_at (S.1 (a + 1)) 64 x0)), some (ev_i ((x1 / (S.1 a 4)) - (x0 / (S.1 a 4)))), some (ev_i ((ev_rem x1 (S.1 a 4)) - (ev_rem x0 (S.1 a 4)))), some (ev_i (ev_abs ((x1 / (S.1 a 4)) - (x0 / (S.1 a 4))))), some (ev_i ((-(S.1 a 4)) + 1)), some (ev_i 1)] [] S Q
                refine ev_fgm [true, true, false, false, false, false, true, true, true] ?_
                exact hQ
            · replace hQ := hQ.2 c6
              refine ev_aload_n (ev_o 0 a) dX0_canReach_89 rfl rfl ?_
              refine gf_0_4 dX0_canReach_90 kw_243 ?_
              refine ev_goto 101 dX0_canReach_93 (by decide) ?_
              refine ev_iload (((ev_rem x1 (S.1 a 4)) - (ev_rem x0 (S.1 a 4)))) dX0_canReach_101 rfl ?_
              refine ev_if_le 110 dX0_canReach_103 (by decide) (fun c8 => ?_) (fun c8 => ?_)
              · replace hQ := hQ.1 c8
                refine ev_iconst (-1) dX0_canReach_110 rfl ?_
                refine ev_iadd dX0_canReach_111 ?_
                refine ev_istore dX0_canReach_112 (Nat.le_of_ble_eq_true rfl) (ev_hw rfl) ?_
                show ev_E g m_X0_canReach 3 0 114 [some (ev_o 0 a), some (ev_i x0), some (ev_i x1), some (ev_i (j_at (S.1 (a + 1)) 64 x0)), some (ev_i ((x1 / (S.1 a 4)) - (x0 / (S.1 a 4)))), some (ev_i ((ev_rem x1 (S.1 a 4)) - (ev_rem x0 (S.1 a 4)))), some (ev_i (ev_abs ((x1 / (S.1 a 4)) - (x0 / (S.1 a 4))))), some (ev_i ((S.1 a 4) + (-1))), none] [] S Q
                refine ev_iconst (1) dX0_canReach_114 rfl ?_
                refine ev_istore dX0_canReach_115 (Nat.le_of_ble_eq_true rfl) (ev_hw rfl) ?_
                show ev_E g m_X0_canReach 3 0 117 [some (ev_o 0 a), some (ev_i x0), some (ev_i x1), some (ev_i (j_at (S.1 (a + 1)) 64 x0)), some (ev_i ((x1 / (S.1 a 4)) - (x0 / (S.1 a 4)))), some (ev_i ((ev_rem x1 (S.1 a 4)) - (ev_rem x0 (S.1 a 4)))), some (ev_i (ev_abs ((x1 / (S.1 a 4)) - (x0 / (S.1 a 4))))), some (ev_i ((S.1 a 4) + (-1))), some (ev_i 1)] [] S Q
                refine ev_fgm [true, true, false, false, false, false, true, true, true] ?_
                exact hQ
              · replace hQ := hQ.2 c8
                refine ev_iconst (1) dX0_canReach_106 rfl ?_
                refine ev_goto 111 dX0_canReach_107 (by decide) ?_
                refine ev_iadd dX0_canReach_111 ?_
                refine ev_istore dX0_canReach_112 (Nat.le_of_ble_eq_true rfl) (ev_hw rfl) ?_
                show ev_E g m_X0_canReach 3 0 114 [some (ev_o 0 a), some (ev_i x0), some (ev_i x1), some (ev_i (j_at (S.1 (a + 1)) 64 x0)), some (ev_i ((x1 / (S.1 a 4)) - (x0 / (S.1 a 4)))), some (ev_i ((ev_rem x1 (S.1 a 4)) - (ev_rem x0 (S.1 a 4)))), some (ev_i (ev_abs ((x1 / (S.1 a 4)) - (x0 / (S.1 a 4))))), some (ev_i ((S.1 a 4) + 1)), none] [] S Q
                refine ev_iconst (1) dX0_canReach_114 rfl ?_
                refine ev_istore dX0_canReach_115 (Nat.le_of_ble_eq_true rfl) (ev_hw rfl) ?_
                show ev_E g m_X0_canReach 3 0 117 [some (ev_o 0 a), some (ev_i x0), some (ev_i x1), some (ev_i (j_at (S.1 (a + 1)) 64 x0)), some (ev_i ((x1 / (S.1 a 4)) - (x0 / (S.1 a 4)))), some (ev_i ((ev_rem x1 (S.1 a 4)) - (ev_rem x0 (S.1 a 4)))), some (ev_i (ev_abs ((x1 / (S.1 a 4)) - (x0 / (S.1 a 4))))), some (ev_i ((S.1 a 4) + 1)), some (ev_i 1)] [] S Q
                refine ev_fgm [true, true, false, false, false, false, true, true, true] ?_
                exact hQ
          · replace hQ := hQ.2 c5
            refine ev_iconst (0) dX0_canReach_82 rfl ?_
            exact ev_ireturn .boolean dX0_canReach_83 rfl rfl hQ
      · replace hQ := hQ.2 c3
        refine ev_iconst (0) dX0_canReach_28 rfl ?_
        exact ev_ireturn .boolean dX0_canReach_29 rfl rfl hQ
set_option maxHeartbeats 4000000 in
set_option maxRecDepth 100000 in
theorem sg_X0_canReach_117 {g : ev_G} {S : ev_S} {Q : ev_O → ev_S → Prop} (a : Nat) (u1 : Int32) (u6 : Int32) (u7 : Int32) (u8 : Int32) (hQ : (u6 ≤ u8 → (
    Q (.inl (some (ev_i 1))) S)) ∧
  (¬ (u6 ≤ u8) → (
    ((j_at (S.1 (a + 1)) 64 (u1 + (u8 * u7))) = (-1) → (
      ev_E g m_X0_canReach 3 0 117 [some (ev_o 0 a), some (ev_i u1), none, none, none, none, some (ev_i u6), some (ev_i u7), some (ev_i (u8 + 1))] [] S Q)) ∧
    (¬ ((j_at (S.1 (a + 1)) 64 (u1 + (u8 * u7))) = (-1)) → (
      Q (.inl (some (ev_i 0))) S))))) : ev_E g m_X0_canReach 3 0 117 [some (ev_o 0 a), some (ev_i u1), none, none, none, none, some (ev_i u6), some (ev_i u7), some (ev_i u8)] [] S Q := by
  refine ev_iload (u8) dX0_canReach_117 rfl ?_
  refine ev_iload (u6) dX0_canReach_119 rfl ?_
  refine ev_icmp_ge 147 dX0_canReach_121 (by decide) (fun c1 => ?_) (fun c1 => ?_)
  · replace hQ := hQ.1 c1
    refine ev_iconst (1) dX0_canReach_147 rfl ?_
    exact ev_ireturn .boolean dX0_canReach_148 rfl rfl hQ
  · replace hQ := hQ.2 c1
    refine ev_aload_n (ev_o 0 a) dX0_canReach_124 rfl rfl ?_
    refine ev_iload_n (u1) dX0_canReach_125 rfl ?_
    refine ev_iload (u8) dX0_canReach_126 rfl ?_
    refine ev_iload (u7) dX0_canReach_128 rfl ?_
    refine ev_imul dX0_canReach_130 ?_
    refine ev_iadd dX0_canReach_131 ?_
    refine ev_fV mv_X0_ownerOn 2 0 [ev_i (u1 + (u8 * u7))] [] dX0_canReach_132 kw_893 rfl (by decide) rfl (by decide) (Nat.le_of_ble_eq_true rfl) (sp_X0_ownerOn a (u1 + (u8 * u7))) ?_ rfl
    refine ev_iconst (-1) dX0_canReach_135 rfl ?_
    refine ev_icmp_eq 141 dX0_canReach_136 (by decide) (fun c2 => ?_) (fun c2 => ?_)
    · replace hQ := hQ.1 c2
      refine ev_iinc u8 (1) dX0_canReach_141 rfl (by decide) (ev_hw rfl) ?_
      show ev_E g m_X0_canReach 3 0 144 [some (ev_o 0 a), some (ev_i u1), none, none, none, none, some (ev_i u6), some (ev_i u7), some (ev_i (u8 + 1))] [] S Q
      refine ev_goto 117 dX0_canReach_144 (by decide) ?_
      exact hQ
    · replace hQ := hQ.2 c2
      refine ev_iconst (0) dX0_canReach_139 rfl ?_
      exact ev_ireturn .boolean dX0_canReach_140 rfl rfl hQ
set_option maxHeartbeats 4000000 in
set_option maxRecDepth 100000 in
theorem sg_X2_moveFault_0 {g : ev_G} {S : ev_S} {Q : ev_O → ev_S → Prop} (a : Nat) (x0 : Int32) (x1 : Int32) (x2 : Int32) (x3 : Int32) (hQ : ((t_X9_isPlayer x0) = true → (
    ((t_X2_isSquare S a x1) = true → (
      ((t_X2_isSquare S a x2) = true → (
        ((t_X5_exists S (a + 20) x3) = true → (
          ((t_X1_mayPlay S (a_X2_deskOf a x0)) = true → (
            ((S.1 (a + 19) 13) < 80 → (
              ((j_at (S.1 ((a_X2_deskOf a x0) + 2)) 64 x1) = x0 → (
                ev_Cv g m_X0_canReach 3 0 [ev_o 0 ((a_X2_deskOf a x0) + 1), ev_i x1, ev_i x2] S (fun o S1 => ∃ v1_ : Bool, o = .inl (some (ev_i (if v1_ = true then 1 else 0))) ∧ (
                  (v1_ = true → (
                    Q (.inl (some (ev_i 0))) S1)) ∧
                  (¬ (v1_ = true) → (
                    Q (.inl (some (ev_i 3))) S1)))))) ∧
              (¬ ((j_at (S.1 ((a_X2_deskOf a x0) + 2)) 64 x1) = x0) → (
                Q (.inl (some (ev_i 3))) S)))) ∧
            (¬ ((S.1 (a + 19) 13) < 80) → (
              Q (.inl (some (ev_i 2))) S)))) ∧
          (¬ ((t_X1_mayPlay S (a_X2_deskOf a x0)) = true) → (
            Q (.inl (some (ev_i 2))) S)))) ∧
        (¬ ((t_X5_exists S (a + 20) x3) = true) → (
          Q (.inl (some (ev_i 1))) S)))) ∧
      (¬ ((t_X2_isSquare S a x2) = true) → (
        Q (.inl (some (ev_i 1))) S)))) ∧
    (¬ ((t_X2_isSquare S a x1) = true) → (
      Q (.inl (some (ev_i 1))) S)))) ∧
  (¬ ((t_X9_isPlayer x0) = true) → (
    Q (.inl (some (ev_i 1))) S))) : ev_Cv g m_X2_moveFault 5 0 [ev_o 2 a, ev_i x0, ev_i x1, ev_i x2, ev_i x3] S Q := by
  refine ev_enter (by decide) rfl rfl (Nat.le_of_ble_eq_true rfl) ?_
  show ev_E g m_X2_moveFault 5 0 0 [some (ev_o 2 a), some (ev_i x0), some (ev_i x1), some (ev_i x2), some (ev_i x3), none] [] S Q
  refine ev_iload_n (x0) dX2_moveFault_0 rfl ?_
  refine ev_fN ms_X9_isPlayer 1 [ev_i x0] [] dX2_moveFault_1 (List.mem_of_getElem? (i := 21) rfl) rfl (by decide) (Nat.le_of_ble_eq_true rfl) (sp_X9_isPlayer x0) ?_ rfl
  by_cases c1 : (t_X9_isPlayer x0) = true
  · rw [if_pos c1]
    replace hQ := hQ.1 c1
    refine ev_if_eq 35 dX2_moveFault_4 (by decide) (fun h9 => absurd h9 (by decide : ¬ ((1 : Int32) = 0))) (fun _ => ?_)
    refine ev_aload_n (ev_o 2 a) dX2_moveFault_7 rfl rfl ?_
    refine ev_iload_n (x1) dX2_moveFault_8 rfl ?_
    refine ev_fV mv_X2_isSquare 3 2 [ev_i x1] [] dX2_moveFault_9 kw_854 rfl (by decide) rfl (by decide) (Nat.le_of_ble_eq_true rfl) (sp_X2_isSquare a x1) ?_ rfl
    by_cases c2 : (t_X2_isSquare S a x1) = true
    · rw [if_pos c2]
      replace hQ := hQ.1 c2
      refine ev_if_eq 35 dX2_moveFault_12 (by decide) (fun h9 => absurd h9 (by decide : ¬ ((1 : Int32) = 0))) (fun _ => ?_)
      refine ev_aload_n (ev_o 2 a) dX2_moveFault_15 rfl rfl ?_
      refine ev_iload_n (x2) dX2_moveFault_16 rfl ?_
      refine ev_fV mv_X2_isSquare 3 2 [ev_i x2] [] dX2_moveFault_17 kw_854 rfl (by decide) rfl (by decide) (Nat.le_of_ble_eq_true rfl) (sp_X2_isSquare a x2) ?_ rfl
      by_cases c3 : (t_X2_isSquare S a x2) = true
      · rw [if_pos c3]
        replace hQ := hQ.1 c3
        refine ev_if_eq 35 dX2_moveFault_20 (by decide) (fun h9 => absurd h9 (by decide : ¬ ((1 : Int32) = 0))) (fun _ => ?_)
        refine ev_aload_n (ev_o 2 a) dX2_moveFault_23 rfl rfl ?_
        refine ev_fV mv_X2_passes 2 2 [] [] dX2_moveFault_24 kw_863 rfl (by decide) rfl (by decide) (Nat.le_of_ble_eq_true rfl) (sp_X2_passes a) ?_ rfl
        refine ev_iload (x3) dX2_moveFault_27 rfl ?_
        refine ev_fV mv_X5_exists 1 5 [ev_i x3] [] dX2_moveFault_29 kw_864 rfl (by decide) rfl (by decide) (Nat.le_of_ble_eq_true rfl) (sp_X5_exists (a + 20) x3) ?_ rfl
        by_cases c4 : (t_X5_exists S (a + 20) x3) = true
        · rw [if_pos c4]
          replace hQ := hQ.1 c4
          refine ev_if_ne 37 dX2_moveFault_32 (by decide) (fun _ => ?_) (fun h9 => absurd h9 (by decide : ¬ ((1 : Int32) = 0)))
          refine ev_aload_n (ev_o 2 a) dX2_moveFault_37 rfl rfl ?_
          refine ev_iload_n (x0) dX2_moveFault_38 rfl ?_
          refine ev_fV mv_X2_deskOf 1 2 [ev_i x0] [] dX2_moveFault_39 kw_581 rfl (by decide) rfl (by decide) (Nat.le_of_ble_eq_true rfl) (sp_X2_deskOf a x0) ?_ rfl
          refine ev_fV mv_X1_mayPlay 4 1 [] [] dX2_moveFault_42 kw_868 rfl (by decide) rfl (by decide) (Nat.le_of_ble_eq_true rfl) (sp_X1_mayPlay (a_X2_deskOf a x0)) ?_ rfl
          by_cases c5 : (t_X1_mayPlay S (a_X2_deskOf a x0)) = true
          · rw [if_pos c5]
            replace hQ := hQ.1 c5
            refine ev_if_eq 58 dX2_moveFault_45 (by decide) (fun h9 => absurd h9 (by decide : ¬ ((1 : Int32) = 0))) (fun _ => ?_)
            refine ev_aload_n (ev_o 2 a) dX2_moveFault_48 rfl rfl ?_
            refine gf_2_2 dX2_moveFault_49 kw_388 ?_
            refine ev_fV mv_X6_isFull 1 6 [] [] dX2_moveFault_52 kw_884 rfl (by decide) rfl (by decide) (Nat.le_of_ble_eq_true rfl) (sp_X6_isFull (a + 19)) ?_ rfl
            by_cases c6 : (S.1 (a + 19) 13) < 80
            · rw [if_pos c6]
              replace hQ := hQ.1 c6
              refine ev_if_eq 60 dX2_moveFault_55 (by decide) (fun _ => ?_) (fun h9 => absurd (by decide : ((0 : Int32) = 0)) h9)
              refine ev_aload_n (ev_o 2 a) dX2_moveFault_60 rfl rfl ?_
              refine ev_iload_n (x0) dX2_moveFault_61 rfl ?_
              refine ev_fV mv_X2_boardOf 2 2 [ev_i x0] [] dX2_moveFault_62 kw_858 rfl (by decide) rfl (by decide) (Nat.le_of_ble_eq_true rfl) (sp_X2_boardOf a x0) ?_ rfl
              refine ev_astore dX2_moveFault_65 rfl (Nat.le_of_ble_eq_true rfl) (ev_hw rfl) ?_
              show ev_E g m_X2_moveFault 5 0 67 [some (ev_o 2 a), some (ev_i x0), some (ev_i x1), some (ev_i x2), some (ev_i x3), some (ev_o 0 ((a_X2_deskOf a x0) + 1))] [] S Q
              refine ev_aload (ev_o 0 ((a_X2_deskOf a x0) + 1)) dX2_moveFault_67 rfl rfl ?_
              refine ev_iload_n (x1) dX2_moveFault_69 rfl ?_
              refine ev_fV mv_X0_ownerOn 2 0 [ev_i x1] [] dX2_moveFault_70 kw_888 rfl (by decide) rfl (by decide) (Nat.le_of_ble_eq_true rfl) (sp_X0_ownerOn ((a_X2_deskOf a x0) + 1) x1) ?_ rfl
              refine ev_iload_n (x0) dX2_moveFault_73 rfl ?_
              refine ev_icmp_ne 91 dX2_moveFault_74 (by decide) (fun c7 => ?_) (fun c7 => ?_)
              · replace hQ := hQ.2 c7
                refine ev_iconst (3) dX2_moveFault_91 rfl ?_
                exact ev_ireturn .int dX2_moveFault_92 rfl rfl hQ
              · replace hQ := hQ.1 c7
                refine ev_aload (ev_o 0 ((a_X2_deskOf a x0) + 1)) dX2_moveFault_77 rfl rfl ?_
                refine ev_iload_n (x1) dX2_moveFault_79 rfl ?_
                refine ev_iload_n (x2) dX2_moveFault_80 rfl ?_
                refine ev_cV mv_X0_canReach 3 0 0 [ev_i x1, ev_i x2] [] dX2_moveFault_81 kw_889 rfl (by decide) rfl (by decide) (by decide) (Nat.le_of_ble_eq_true rfl) hQ ?_ rfl
                rintro o S1 ⟨v1_, rfl, hQ⟩
                show ev_E g m_X2_moveFault 5 0 84 [some (ev_o 2 a), some (ev_i x0), some (ev_i x1), some (ev_i x2), some (ev_i x3), some (ev_o 0 ((a_X2_deskOf a x0) + 1))] [ev_i (if v1_ = true then 1 else 0)] S1 Q
                by_cases c8 : v1_ = true
                · rw [if_pos c8]
                  replace hQ := hQ.1 c8
                  refine ev_if_eq 91 dX2_moveFault_84 (by decide) (fun h9 => absurd h9 (by decide : ¬ ((1 : Int32) = 0))) (fun _ => ?_)
                  refine ev_iconst (0) dX2_moveFault_87 rfl ?_
                  refine ev_goto 92 dX2_moveFault_88 (by decide) ?_
                  exact ev_ireturn .int dX2_moveFault_92 rfl rfl hQ
                · rw [if_neg c8]
                  replace hQ := hQ.2 c8
                  refine ev_if_eq 91 dX2_moveFault_84 (by decide) (fun _ => ?_) (fun h9 => absurd (by decide : ((0 : Int32) = 0)) h9)
                  refine ev_iconst (3) dX2_moveFault_91 rfl ?_
                  exact ev_ireturn .int dX2_moveFault_92 rfl rfl hQ
            · rw [if_neg c6]
              replace hQ := hQ.2 c6
              refine ev_if_eq 60 dX2_moveFault_55 (by decide) (fun h9 => absurd h9 (by decide : ¬ ((1 : Int32) = 0))) (fun _ => ?_)
              refine ev_iconst (2) dX2_moveFault_58 rfl ?_
              exact ev_ireturn .int dX2_moveFault_59 rfl rfl hQ
          · rw [if_neg c5]
            replace hQ := hQ.2 c5
            refine ev_if_eq 58 dX2_moveFault_45 (by decide) (fun _ => ?_) (fun h9 => absurd (by decide : ((0 : Int32) = 0)) h9)
            refine ev_iconst (2) dX2_moveFault_58 rfl ?_
            exact ev_ireturn .int dX2_moveFault_59 rfl rfl hQ
        · rw [if_neg c4]
          replace hQ := hQ.2 c4
          refine ev_if_ne 37 dX2_moveFault_32 (by decide) (fun h9 => absurd (by decide : ((0 : Int32) = 0)) h9) (fun _ => ?_)
          refine ev_iconst (1) dX2_moveFault_35 rfl ?_
          exact ev_ireturn .int dX2_moveFault_36 rfl rfl hQ
      · rw [if_neg c3]
        replace hQ := hQ.2 c3
        refine ev_if_eq 35 dX2_moveFault_20 (by decide) (fun _ => ?_) (fun h9 => absurd (by decide : ((0 : Int32) = 0)) h9)
        refine ev_iconst (1) dX2_moveFault_35 rfl ?_
        exact ev_ireturn .int dX2_moveFault_36 rfl rfl hQ
    · rw [if_neg c2]
      replace hQ := hQ.2 c2
      refine ev_if_eq 35 dX2_moveFault_12 (by decide) (fun _ => ?_) (fun h9 => absurd (by decide : ((0 : Int32) = 0)) h9)
      refine ev_iconst (1) dX2_moveFault_35 rfl ?_
      exact ev_ireturn .int dX2_moveFault_36 rfl rfl hQ
  · rw [if_neg c1]
    replace hQ := hQ.2 c1
    refine ev_if_eq 35 dX2_moveFault_4 (by decide) (fun _ => ?_) (fun h9 => absurd (by decide : ((0 : Int32) = 0)) h9)
    refine ev_iconst (1) dX2_moveFault_35 rfl ?_
    exact ev_ireturn .int dX2_moveFault_36 rfl rfl hQ
set_option maxHeartbeats 4000000 in
set_option maxRecDepth 100000 in
theorem sg_X9_moveOf_0 {g : ev_G} {S : ev_S} {Q : ev_O → ev_S → Prop} (x0 : Int32) (x1 : Int32) (hQ : Q (.inl (some (ev_i ((x0 * 64) + x1)))) S) : ev_Cv g m_X9_moveOf 1 0 [ev_i x0, ev_i x1] S Q := by
  refine ev_enter (by decide) rfl rfl (Nat.le_of_ble_eq_true rfl) ?_
  show ev_E g m_X9_moveOf 1 0 0 [some (ev_i x0), some (ev_i x1)] [] S Q
  refine ev_iload_n (x0) dX9_moveOf_0 rfl ?_
  refine ev_bipush (64) dX9_moveOf_1 (by decide) ?_
  refine ev_imul dX9_moveOf_3 ?_
  refine ev_iload_n (x1) dX9_moveOf_4 rfl ?_
  refine ev_iadd dX9_moveOf_5 ?_
  exact ev_ireturn .int dX9_moveOf_6 rfl rfl hQ
set_option maxHeartbeats 4000000 in
set_option maxRecDepth 100000 in
theorem sp_X9_moveOf {g : ev_G} {S : ev_S} (x0 : Int32) (x1 : Int32)  : ev_Fn g m_X9_moveOf 1 [ev_i x0, ev_i x1] S (some (ev_i ((x0 * 64) + x1))) S := by
  intro Q hQ
  refine sg_X9_moveOf_0 x0 x1 ?_
  exact hQ
set_option maxHeartbeats 4000000 in
set_option maxRecDepth 100000 in
theorem sg_X9_startOf_0 {g : ev_G} {S : ev_S} {Q : ev_O → ev_S → Prop} (x0 : Int32) (hQ : Q (.inl (some (ev_i (x0 / 64)))) S) : ev_Cv g m_X9_startOf 1 0 [ev_i x0] S Q := by
  refine ev_enter (by decide) rfl rfl (Nat.le_of_ble_eq_true rfl) ?_
  show ev_E g m_X9_startOf 1 0 0 [some (ev_i x0)] [] S Q
  refine ev_iload_n (x0) dX9_startOf_0 rfl ?_
  refine ev_bipush (64) dX9_startOf_1 (by decide) ?_
  refine ev_idiv dX9_startOf_3 (by decide) ?_
  exact ev_ireturn .int dX9_startOf_4 rfl rfl hQ
set_option maxHeartbeats 4000000 in
set_option maxRecDepth 100000 in
theorem sp_X9_startOf {g : ev_G} {S : ev_S} (x0 : Int32)  : ev_Fn g m_X9_startOf 1 [ev_i x0] S (some (ev_i (x0 / 64))) S := by
  intro Q hQ
  refine sg_X9_startOf_0 x0 ?_
  exact hQ
set_option maxHeartbeats 4000000 in
set_option maxRecDepth 100000 in
theorem sg_X9_endOf_0 {g : ev_G} {S : ev_S} {Q : ev_O → ev_S → Prop} (x0 : Int32) (hQ : Q (.inl (some (ev_i (ev_rem x0 64)))) S) : ev_Cv g m_X9_endOf 1 0 [ev_i x0] S Q := by
  refine ev_enter (by decide) rfl rfl (Nat.le_of_ble_eq_true rfl) ?_
  show ev_E g m_X9_endOf 1 0 0 [some (ev_i x0)] [] S Q
  refine ev_iload_n (x0) dX9_endOf_0 rfl ?_
  refine ev_bipush (64) dX9_endOf_1 (by decide) ?_
  refine ev_irem dX9_endOf_3 (by decide) ?_
  exact ev_ireturn .int dX9_endOf_4 rfl rfl hQ
set_option maxHeartbeats 4000000 in
set_option maxRecDepth 100000 in
theorem sp_X9_endOf {g : ev_G} {S : ev_S} (x0 : Int32)  : ev_Fn g m_X9_endOf 1 [ev_i x0] S (some (ev_i (ev_rem x0 64))) S := by
  intro Q hQ
  refine sg_X9_endOf_0 x0 ?_
  exact hQ
