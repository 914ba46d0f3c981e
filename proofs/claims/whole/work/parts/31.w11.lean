set_option maxHeartbeats 4000000 in
set_option maxRecDepth 100000 in
theorem sg_X10_readsCommand_0 {g : ev_G} {S : ev_S} {Q : ev_O → ev_S → Prop} {D : Nat} (hD : 20 ≤ D) (a : Nat) (x0 : Int32) (hQ : ev_Cv g m_X10_commandHere 6 0 [ev_o 10 a] S (fun o S1 => ∃ v1_ : Int32, o = .inl (some (ev_i v1_)) ∧ (
    if v1_ = (-1) then (
      ev_Cv g m_X10_must 1 0 [ev_o 10 a, ev_i 0, ev_i 1] S1 (fun o S2 => ∃ v2_ : Bool, o = .inl (some (ev_i (if v2_ = true then 1 else 0))) ∧ (
        if v2_ = true then (
          if 30 ≤ (S2.1 a 21) then (
            ev_Cv g m_X10_must 1 0 [ev_o 10 a, ev_i 0, ev_i 4] S2 (fun o S3 => ∃ v3_ : Bool, o = .inl (some (ev_i (if v3_ = true then 1 else 0))) ∧ (
              if v3_ = true then (
                (vp_in (S3.1 a 21) 30) ∧ (
                  ∀ S4 : ev_S, S4 = (ev_up S3 (a + 8) (S3.1 a 21).toNatClampNeg v1_) → (
                    ∀ S5 : ev_S, S5 = (ev_up S4 a 21 ((S3.1 a 21) + 1)) → (
                      ev_Cv g m_X10_reads 2 0 [ev_o 10 a] S5 (fun o S6 => o = .inl none ∧ (
                        ev_Cv g m_X10_readsSingle 6 0 [ev_o 10 a, ev_i (S3.1 a 21)] S6 (fun o S7 => o = .inl none ∧ (
                          ev_Cv g m_X10_takesSign 4 0 [ev_o 10 a, ev_i 59] S7 (fun o S8 => o = .inl none ∧ (
                            Q (.inl none) S8))))))))))
              else (
                Q (.inl none) S3))))
          else (
            ev_Cv g m_X10_must 1 0 [ev_o 10 a, ev_i 1, ev_i 4] S2 (fun o S9 => ∃ v7_ : Bool, o = .inl (some (ev_i (if v7_ = true then 1 else 0))) ∧ (
              if v7_ = true then (
                (vp_in (S9.1 a 21) 30) ∧ (
                  ∀ S10 : ev_S, S10 = (ev_up S9 (a + 8) (S9.1 a 21).toNatClampNeg v1_) → (
                    ∀ S11 : ev_S, S11 = (ev_up S10 a 21 ((S9.1 a 21) + 1)) → (
                      ev_Cv g m_X10_reads 2 0 [ev_o 10 a] S11 (fun o S12 => o = .inl none ∧ (
                        ev_Cv g m_X10_readsSingle 6 0 [ev_o 10 a, ev_i (S9.1 a 21)] S12 (fun o S13 => o = .inl none ∧ (
                          ev_Cv g m_X10_takesSign 4 0 [ev_o 10 a, ev_i 59] S13 (fun o S14 => o = .inl none ∧ (
                            Q (.inl none) S14))))))))))
              else (
                Q (.inl none) S9)))))
        else (
          Q (.inl none) S2))))
    else (
      ev_Cv g m_X10_must 1 0 [ev_o 10 a, ev_i 1, ev_i 1] S1 (fun o S15 => ∃ v11_ : Bool, o = .inl (some (ev_i (if v11_ = true then 1 else 0))) ∧ (
        if v11_ = true then (
          if 30 ≤ (S15.1 a 21) then (
            ev_Cv g m_X10_must 1 0 [ev_o 10 a, ev_i 0, ev_i 4] S15 (fun o S16 => ∃ v12_ : Bool, o = .inl (some (ev_i (if v12_ = true then 1 else 0))) ∧ (
              if v12_ = true then (
                (vp_in (S16.1 a 21) 30) ∧ (
                  ∀ S17 : ev_S, S17 = (ev_up S16 (a + 8) (S16.1 a 21).toNatClampNeg v1_) → (
                    ∀ S18 : ev_S, S18 = (ev_up S17 a 21 ((S16.1 a 21) + 1)) → (
                      ev_Cv g m_X10_reads 2 0 [ev_o 10 a] S18 (fun o S19 => o = .inl none ∧ (
                        if v1_ = 6 then (
                          ev_Cv g m_X10_readsRepeat (D + 1) 0 [ev_o 10 a, ev_i (S16.1 a 21), ev_i x0] S19 (fun o S22 => o = .inl none ∧ (
                            ev_Cv g m_X10_takesSign 4 0 [ev_o 10 a, ev_i 59] S22 (fun o S23 => o = .inl none ∧ (
                              Q (.inl none) S23)))))
                        else (
                          ev_Cv g m_X10_readsSingle 6 0 [ev_o 10 a, ev_i (S16.1 a 21)] S19 (fun o S20 => o = .inl none ∧ (
                            ev_Cv g m_X10_takesSign 4 0 [ev_o 10 a, ev_i 59] S20 (fun o S21 => o = .inl none ∧ (
                              Q (.inl none) S21)))))))))))
              else (
                Q (.inl none) S16))))
          else (
            ev_Cv g m_X10_must 1 0 [ev_o 10 a, ev_i 1, ev_i 4] S15 (fun o S24 => ∃ v18_ : Bool, o = .inl (some (ev_i (if v18_ = true then 1 else 0))) ∧ (
              if v18_ = true then (
                (vp_in (S24.1 a 21) 30) ∧ (
                  ∀ S25 : ev_S, S25 = (ev_up S24 (a + 8) (S24.1 a 21).toNatClampNeg v1_) → (
                    ∀ S26 : ev_S, S26 = (ev_up S25 a 21 ((S24.1 a 21) + 1)) → (
                      ev_Cv g m_X10_reads 2 0 [ev_o 10 a] S26 (fun o S27 => o = .inl none ∧ (
                        if v1_ = 6 then (
                          ev_Cv g m_X10_readsRepeat (D + 1) 0 [ev_o 10 a, ev_i (S24.1 a 21), ev_i x0] S27 (fun o S30 => o = .inl none ∧ (
                            ev_Cv g m_X10_takesSign 4 0 [ev_o 10 a, ev_i 59] S30 (fun o S31 => o = .inl none ∧ (
                              Q (.inl none) S31)))))
                        else (
                          ev_Cv g m_X10_readsSingle 6 0 [ev_o 10 a, ev_i (S24.1 a 21)] S27 (fun o S28 => o = .inl none ∧ (
                            ev_Cv g m_X10_takesSign 4 0 [ev_o 10 a, ev_i 59] S28 (fun o S29 => o = .inl none ∧ (
                              Q (.inl none) S29)))))))))))
              else (
                Q (.inl none) S24)))))
        else (
          Q (.inl none) S15))))))) : ev_Cv g m_X10_readsCommand (D + 2) 0 [ev_o 10 a, ev_i x0] S Q := by
  refine ev_enter (by decide) rfl rfl (Nat.le_of_ble_eq_true rfl) ?_
  show ev_E g m_X10_readsCommand (D + 2) 0 0 [some (ev_o 10 a), some (ev_i x0), none, none] [] S Q
  refine ev_aload_n (ev_o 10 a) dX10_readsCommand_0 rfl rfl ?_
  refine ev_cV mv_X10_commandHere 6 0 10 [] [] dX10_readsCommand_1 kw_1987 rfl (by decide) rfl (by omega) (by decide) (Nat.le_of_ble_eq_true rfl) hQ ?_ rfl
  rintro o S1 ⟨v1_, rfl, hQ⟩
  show ev_E g m_X10_readsCommand (D + 2) 0 4 [some (ev_o 10 a), some (ev_i x0), none, none] [ev_i v1_] S1 Q
  refine ev_istore_n dX10_readsCommand_4 (Nat.le_of_ble_eq_true rfl) (ev_hw rfl) ?_
  show ev_E g m_X10_readsCommand (D + 2) 0 5 [some (ev_o 10 a), some (ev_i x0), some (ev_i v1_), none] [] S1 Q
  refine ev_aload_n (ev_o 10 a) dX10_readsCommand_5 rfl rfl ?_
  refine ev_iload_n (v1_) dX10_readsCommand_6 rfl ?_
  refine ev_iconst (-1) dX10_readsCommand_7 rfl ?_
  refine ev_icmp_eq 15 dX10_readsCommand_8 (by decide) (fun c1 => ?_) (fun c1 => ?_)
  · rw [if_pos c1] at hQ
    refine ev_iconst (0) dX10_readsCommand_15 rfl ?_
    refine ev_iconst (1) dX10_readsCommand_16 rfl ?_
    refine ev_cV mv_X10_must 1 0 10 [ev_i 0, ev_i 1] [] dX10_readsCommand_17 kw_1794 rfl (by decide) rfl (by omega) (by decide) (Nat.le_of_ble_eq_true rfl) hQ ?_ rfl
    rintro o S2 ⟨v2_, rfl, hQ⟩
    show ev_E g m_X10_readsCommand (D + 2) 0 20 [some (ev_o 10 a), some (ev_i x0), some (ev_i v1_), none] [ev_i (if v2_ = true then 1 else 0)] S2 Q
    by_cases c2 : v2_ = true
    · rw [if_pos c2]
      rw [if_pos c2] at hQ
      refine ev_if_eq 45 dX10_readsCommand_20 (by decide) (fun h9 => absurd h9 (by decide : ¬ ((1 : Int32) = 0))) (fun _ => ?_)
      refine ev_aload_n (ev_o 10 a) dX10_readsCommand_23 rfl rfl ?_
      refine ev_aload_n (ev_o 10 a) dX10_readsCommand_24 rfl rfl ?_
      refine gf_10_21 dX10_readsCommand_25 kw_1874 ?_
      refine ev_bipush (30) dX10_readsCommand_28 (by decide) ?_
      refine ev_icmp_ge 37 dX10_readsCommand_30 (by decide) (fun c3 => ?_) (fun c3 => ?_)
      · rw [if_pos c3] at hQ
        refine ev_iconst (0) dX10_readsCommand_37 rfl ?_
        refine ev_iconst (4) dX10_readsCommand_38 rfl ?_
        refine ev_cV mv_X10_must 1 0 10 [ev_i 0, ev_i 4] [] dX10_readsCommand_39 kw_1794 rfl (by decide) rfl (by omega) (by decide) (Nat.le_of_ble_eq_true rfl) hQ ?_ rfl
        rintro o S3 ⟨v3_, rfl, hQ⟩
        show ev_E g m_X10_readsCommand (D + 2) 0 42 [some (ev_o 10 a), some (ev_i x0), some (ev_i v1_), none] [ev_i (if v3_ = true then 1 else 0)] S3 Q
        by_cases c4 : v3_ = true
        · rw [if_pos c4]
          rw [if_pos c4] at hQ
          refine ev_if_ne 46 dX10_readsCommand_42 (by decide) (fun _ => ?_) (fun h9 => absurd h9 (by decide : ¬ ((1 : Int32) = 0)))
          refine ev_aload_n (ev_o 10 a) dX10_readsCommand_46 rfl rfl ?_
          refine gf_10_21 dX10_readsCommand_47 kw_1874 ?_
          refine ev_istore_n dX10_readsCommand_50 (Nat.le_of_ble_eq_true rfl) (ev_hw rfl) ?_
          show ev_E g m_X10_readsCommand (D + 2) 0 51 [some (ev_o 10 a), some (ev_i x0), some (ev_i v1_), some (ev_i (S3.1 a 21))] [] S3 Q
          refine ev_aload_n (ev_o 10 a) dX10_readsCommand_51 rfl rfl ?_
          refine gf_10_19 dX10_readsCommand_52 kw_1872 ?_
          refine ev_iload_n ((S3.1 a 21)) dX10_readsCommand_55 rfl ?_
          refine ev_iload_n (v1_) dX10_readsCommand_56 rfl ?_
          obtain ⟨h1, hQ⟩ := hQ
          refine ev_iastore dX10_readsCommand_57 h1 ?_
          obtain ⟨S4, hS4⟩ : ∃ z, z = (ev_up S3 (a + 8) (S3.1 a 21).toNatClampNeg v1_) := ⟨_, rfl⟩
          refine ev_E.goal (pc' := 58) (L' := [some (ev_o 10 a), some (ev_i x0), some (ev_i v1_), some (ev_i (S3.1 a 21))]) (K' := []) (S' := S4) ?_ rfl rfl rfl hS4
          replace hQ := hQ S4 hS4
          refine ev_aload_n (ev_o 10 a) dX10_readsCommand_58 rfl rfl ?_
          refine ev_dup dX10_readsCommand_59 rfl ?_
          refine gf_10_21 dX10_readsCommand_60 kw_1874 ?_
          refine ev_ke (j_rk hS4 (Or.inl (by omega))) ?_
          refine ev_iconst (1) dX10_readsCommand_63 rfl ?_
          refine ev_iadd dX10_readsCommand_64 ?_
          refine pf_10_21 dX10_readsCommand_65 kw_1874 ?_
          obtain ⟨S5, hS5⟩ : ∃ z, z = (ev_up S4 a 21 ((S3.1 a 21) + 1)) := ⟨_, rfl⟩
          refine ev_E.goal (pc' := 68) (L' := [some (ev_o 10 a), some (ev_i x0), some (ev_i v1_), some (ev_i (S3.1 a 21))]) (K' := []) (S' := S5) ?_ rfl rfl rfl hS5
          replace hQ := hQ S5 hS5
          refine ev_aload_n (ev_o 10 a) dX10_readsCommand_68 rfl rfl ?_
          refine ev_cV mv_X10_reads 2 0 10 [] [] dX10_readsCommand_69 kw_1773 rfl (by decide) rfl (by omega) (by decide) (Nat.le_of_ble_eq_true rfl) hQ ?_ rfl
          rintro o S6 ⟨rfl, hQ⟩
          show ev_E g m_X10_readsCommand (D + 2) 0 72 [some (ev_o 10 a), some (ev_i x0), some (ev_i v1_), some (ev_i (S3.1 a 21))] [] S6 Q
          refine ev_iload_n (v1_) dX10_readsCommand_72 rfl ?_
          refine ev_bipush (6) dX10_readsCommand_73 (by decide) ?_
          refine ev_icmp_ne 87 dX10_readsCommand_75 (by decide) (fun _ => ?_) (fun h9 => absurd h9 (by rw [c1]; decide : ¬ (v1_ = 6)))
          refine ev_aload_n (ev_o 10 a) dX10_readsCommand_87 rfl rfl ?_
          refine ev_iload_n ((S3.1 a 21)) dX10_readsCommand_88 rfl ?_
          refine ev_cV mv_X10_readsSingle 6 0 10 [ev_i (S3.1 a 21)] [] dX10_readsCommand_89 kw_2005 rfl (by decide) rfl (by omega) (by decide) (Nat.le_of_ble_eq_true rfl) hQ ?_ rfl
          rintro o S7 ⟨rfl, hQ⟩
          show ev_E g m_X10_readsCommand (D + 2) 0 92 [some (ev_o 10 a), some (ev_i x0), some (ev_i v1_), some (ev_i (S3.1 a 21))] [] S7 Q
          refine ev_aload_n (ev_o 10 a) dX10_readsCommand_92 rfl rfl ?_
          refine ev_bipush (59) dX10_readsCommand_93 (by decide) ?_
          refine ev_cV mv_X10_takesSign 4 0 10 [ev_i 59] [] dX10_readsCommand_95 kw_1810 rfl (by decide) rfl (by omega) (by decide) (Nat.le_of_ble_eq_true rfl) hQ ?_ rfl
          rintro o S8 ⟨rfl, hQ⟩
          show ev_E g m_X10_readsCommand (D + 2) 0 98 [some (ev_o 10 a), some (ev_i x0), some (ev_i v1_), some (ev_i (S3.1 a 21))] [] S8 Q
          exact ev_return dX10_readsCommand_98 rfl hQ
        · rw [if_neg c4]
          rw [if_neg c4] at hQ
          refine ev_if_ne 46 dX10_readsCommand_42 (by decide) (fun h9 => absurd (by decide : ((0 : Int32) = 0)) h9) (fun _ => ?_)
          exact ev_return dX10_readsCommand_45 rfl hQ
      · rw [if_neg c3] at hQ
        refine ev_iconst (1) dX10_readsCommand_33 rfl ?_
        refine ev_goto 38 dX10_readsCommand_34 (by decide) ?_
        refine ev_iconst (4) dX10_readsCommand_38 rfl ?_
        refine ev_cV mv_X10_must 1 0 10 [ev_i 1, ev_i 4] [] dX10_readsCommand_39 kw_1794 rfl (by decide) rfl (by omega) (by decide) (Nat.le_of_ble_eq_true rfl) hQ ?_ rfl
        rintro o S9 ⟨v7_, rfl, hQ⟩
        show ev_E g m_X10_readsCommand (D + 2) 0 42 [some (ev_o 10 a), some (ev_i x0), some (ev_i v1_), none] [ev_i (if v7_ = true then 1 else 0)] S9 Q
        by_cases c5 : v7_ = true
        · rw [if_pos c5]
          rw [if_pos c5] at hQ
          refine ev_if_ne 46 dX10_readsCommand_42 (by decide) (fun _ => ?_) (fun h9 => absurd h9 (by decide : ¬ ((1 : Int32) = 0)))
          refine ev_aload_n (ev_o 10 a) dX10_readsCommand_46 rfl rfl ?_
          refine gf_10_21 dX10_readsCommand_47 kw_1874 ?_
          refine ev_istore_n dX10_readsCommand_50 (Nat.le_of_ble_eq_true rfl) (ev_hw rfl) ?_
          show ev_E g m_X10_readsCommand (D + 2) 0 51 [some (ev_o 10 a), some (ev_i x0), some (ev_i v1_), some (ev_i (S9.1 a 21))] [] S9 Q
          refine ev_aload_n (ev_o 10 a) dX10_readsCommand_51 rfl rfl ?_
          refine gf_10_19 dX10_readsCommand_52 kw_1872 ?_
          refine ev_iload_n ((S9.1 a 21)) dX10_readsCommand_55 rfl ?_
          refine ev_iload_n (v1_) dX10_readsCommand_56 rfl ?_
          obtain ⟨h2, hQ⟩ := hQ
          refine ev_iastore dX10_readsCommand_57 h2 ?_
          obtain ⟨S10, hS10⟩ : ∃ z, z = (ev_up S9 (a + 8) (S9.1 a 21).toNatClampNeg v1_) := ⟨_, rfl⟩
          refine ev_E.goal (pc' := 58) (L' := [some (ev_o 10 a), some (ev_i x0), some (ev_i v1_), some (ev_i (S9.1 a 21))]) (K' := []) (S' := S10) ?_ rfl rfl rfl hS10
          replace hQ := hQ S10 hS10
          refine ev_aload_n (ev_o 10 a) dX10_readsCommand_58 rfl rfl ?_
          refine ev_dup dX10_readsCommand_59 rfl ?_
          refine gf_10_21 dX10_readsCommand_60 kw_1874 ?_
          refine ev_ke (j_rk hS10 (Or.inl (by omega))) ?_
          refine ev_iconst (1) dX10_readsCommand_63 rfl ?_
          refine ev_iadd dX10_readsCommand_64 ?_
          refine pf_10_21 dX10_readsCommand_65 kw_1874 ?_
          obtain ⟨S11, hS11⟩ : ∃ z, z = (ev_up S10 a 21 ((S9.1 a 21) + 1)) := ⟨_, rfl⟩
          refine ev_E.goal (pc' := 68) (L' := [some (ev_o 10 a), some (ev_i x0), some (ev_i v1_), some (ev_i (S9.1 a 21))]) (K' := []) (S' := S11) ?_ rfl rfl rfl hS11
          replace hQ := hQ S11 hS11
          refine ev_aload_n (ev_o 10 a) dX10_readsCommand_68 rfl rfl ?_
          refine ev_cV mv_X10_reads 2 0 10 [] [] dX10_readsCommand_69 kw_1773 rfl (by decide) rfl (by omega) (by decide) (Nat.le_of_ble_eq_true rfl) hQ ?_ rfl
          rintro o S12 ⟨rfl, hQ⟩
          show ev_E g m_X10_readsCommand (D + 2) 0 72 [some (ev_o 10 a), some (ev_i x0), some (ev_i v1_), some (ev_i (S9.1 a 21))] [] S12 Q
          refine ev_iload_n (v1_) dX10_readsCommand_72 rfl ?_
          refine ev_bipush (6) dX10_readsCommand_73 (by decide) ?_
          refine ev_icmp_ne 87 dX10_readsCommand_75 (by decide) (fun _ => ?_) (fun h9 => absurd h9 (by rw [c1]; decide : ¬ (v1_ = 6)))
          refine ev_aload_n (ev_o 10 a) dX10_readsCommand_87 rfl rfl ?_
          refine ev_iload_n ((S9.1 a 21)) dX10_readsCommand_88 rfl ?_
          refine ev_cV mv_X10_readsSingle 6 0 10 [ev_i (S9.1 a 21)] [] dX10_readsCommand_89 kw_2005 rfl (by decide) rfl (by omega) (by decide) (Nat.le_of_ble_eq_true rfl) hQ ?_ rfl
          rintro o S13 ⟨rfl, hQ⟩
          show ev_E g m_X10_readsCommand (D + 2) 0 92 [some (ev_o 10 a), some (ev_i x0), some (ev_i v1_), some (ev_i (S9.1 a 21))] [] S13 Q
          refine ev_aload_n (ev_o 10 a) dX10_readsCommand_92 rfl rfl ?_
          refine ev_bipush (59) dX10_readsCommand_93 (by decide) ?_
          refine ev_cV mv_X10_takesSign 4 0 10 [ev_i 59] [] dX10_readsCommand_95 kw_1810 rfl (by decide) rfl (by omega) (by decide) (Nat.le_of_ble_eq_true rfl) hQ ?_ rfl
          rintro o S14 ⟨rfl, hQ⟩
          show ev_E g m_X10_readsCommand (D + 2) 0 98 [some (ev_o 10 a), some (ev_i x0), some (ev_i v1_), some (ev_i (S9.1 a 21))] [] S14 Q
          exact ev_return dX10_readsCommand_98 rfl hQ
        · rw [if_neg c5]
          rw [if_neg c5] at hQ
          refine ev_if_ne 46 dX10_readsCommand_42 (by decide) (fun h9 => absurd (by decide : ((0 : Int32) = 0)) h9) (fun _ => ?_)
          exact ev_return dX10_readsCommand_45 rfl hQ
    · rw [if_neg c2]
      rw [if_neg c2] at hQ
      refine ev_if_eq 45 dX10_readsCommand_20 (by decide) (fun _ => ?_) (fun h9 => absurd (by decide : ((0 : Int32) = 0)) h9)
      exact ev_return dX10_readsCommand_45 rfl hQ
  · rw [if_neg c1] at hQ
    refine ev_iconst (1) dX10_readsCommand_11 rfl ?_
    refine ev_goto 16 dX10_readsCommand_12 (by decide) ?_
    refine ev_iconst (1) dX10_readsCommand_16 rfl ?_
    refine ev_cV mv_X10_must 1 0 10 [ev_i 1, ev_i 1] [] dX10_readsCommand_17 kw_1794 rfl (by decide) rfl (by omega) (by decide) (Nat.le_of_ble_eq_true rfl) hQ ?_ rfl
    rintro o S15 ⟨v11_, rfl, hQ⟩
    show ev_E g m_X10_readsCommand (D + 2) 0 20 [some (ev_o 10 a), some (ev_i x0), some (ev_i v1_), none] [ev_i (if v11_ = true then 1 else 0)] S15 Q
    by_cases c6 : v11_ = true
    · rw [if_pos c6]
      rw [if_pos c6] at hQ
      refine ev_if_eq 45 dX10_readsCommand_20 (by decide) (fun h9 => absurd h9 (by decide : ¬ ((1 : Int32) = 0))) (fun _ => ?_)
      refine ev_aload_n (ev_o 10 a) dX10_readsCommand_23 rfl rfl ?_
      refine ev_aload_n (ev_o 10 a) dX10_readsCommand_24 rfl rfl ?_
      refine gf_10_21 dX10_readsCommand_25 kw_1874 ?_
      refine ev_bipush (30) dX10_readsCommand_28 (by decide) ?_
      refine ev_icmp_ge 37 dX10_readsCommand_30 (by decide) (fun c7 => ?_) (fun c7 => ?_)
      · rw [if_pos c7] at hQ
        refine ev_iconst (0) dX10_readsCommand_37 rfl ?_
        refine ev_iconst (4) dX10_readsCommand_38 rfl ?_
        refine ev_cV mv_X10_must 1 0 10 [ev_i 0, ev_i 4] [] dX10_readsCommand_39 kw_1794 rfl (by decide) rfl (by omega) (by decide) (Nat.le_of_ble_eq_true rfl) hQ ?_ rfl
        rintro o S16 ⟨v12_, rfl, hQ⟩
        show ev_E g m_X10_readsCommand (D + 2) 0 42 [some (ev_o 10 a), some (ev_i x0), some (ev_i v1_), none] [ev_i (if v12_ = true then 1 else 0)] S16 Q
        by_cases c8 : v12_ = true
        · rw [if_pos c8]
          rw [if_pos c8] at hQ
          refine ev_if_ne 46 dX10_readsCommand_42 (by decide) (fun _ => ?_) (fun h9 => absurd h9 (by decide : ¬ ((1 : Int32) = 0)))
          refine ev_aload_n (ev_o 10 a) dX10_readsCommand_46 rfl rfl ?_
          refine gf_10_21 dX10_readsCommand_47 kw_1874 ?_
          refine ev_istore_n dX10_readsCommand_50 (Nat.le_of_ble_eq_true rfl) (ev_hw rfl) ?_
          show ev_E g m_X10_readsCommand (D + 2) 0 51 [some (ev_o 10 a), some (ev_i x0), some (ev_i v1_), some (ev_i (S16.1 a 21))] [] S16 Q
          refine ev_aload_n (ev_o 10 a) dX10_readsCommand_51 rfl rfl ?_
          refine gf_10_19 dX10_readsCommand_52 kw_1872 ?_
          refine ev_iload_n ((S16.1 a 21)) dX10_readsCommand_55 rfl ?_
          refine ev_iload_n (v1_) dX10_readsCommand_56 rfl ?_
          obtain ⟨h3, hQ⟩ := hQ
          refine ev_iastore dX10_readsCommand_57 h3 ?_
          obtain ⟨S17, hS17⟩ : ∃ z, z = (ev_up S16 (a + 8) (S16.1 a 21).toNatClampNeg v1_) := ⟨_, rfl⟩
          refine ev_E.goal (pc' := 58) (L' := [some (ev_o 10 a), some (ev_i x0), some (ev_i v1_), some (ev_i (S16.1 a 21))]) (K' := []) (S' := S17) ?_ rfl rfl rfl hS17
          replace hQ := hQ S17 hS17
          refine ev_aload_n (ev_o 10 a) dX10_readsCommand_58 rfl rfl ?_
          refine ev_dup dX10_readsCommand_59 rfl ?_
          refine gf_10_21 dX10_readsCommand_60 kw_1874 ?_
          refine ev_ke (j_rk hS17 (Or.inl (by omega))) ?_
          refine ev_iconst (1) dX10_readsCommand_63 rfl ?_
          refine ev_iadd dX10_readsCommand_64 ?_
          refine pf_10_21 dX10_readsCommand_65 kw_1874 ?_
          obtain ⟨S18, hS18⟩ : ∃ z, z = (ev_up S17 a 21 ((S16.1 a 21) + 1)) := ⟨_, rfl⟩
          refine ev_E.goal (pc' := 68) (L' := [some (ev_o 10 a), some (ev_i x0), some (ev_i v1_), some (ev_i (S16.1 a 21))]) (K' := []) (S' := S18) ?_ rfl rfl rfl hS18
          replace hQ := hQ S18 hS18
          refine ev_aload_n (ev_o 10 a) dX10_readsCommand_68 rfl rfl ?_
          refine ev_cV mv_X10_reads 2 0 10 [] [] dX10_readsCommand_69 kw_1773 rfl (by decide) rfl (by omega) (by decide) (Nat.le_of_ble_eq_true rfl) hQ ?_ rfl
          rintro o S19 ⟨rfl, hQ⟩
          show ev_E g m_X10_readsCommand (D + 2) 0 72 [some (ev_o 10 a), some (ev_i x0), some (ev_i v1_), some (ev_i (S16.1 a 21))] [] S19 Q
          refine ev_iload_n (v1_) dX10_readsCommand_72 rfl ?_
          refine ev_bipush (6) dX10_readsCommand_73 (by decide) ?_
          refine ev_icmp_ne 87 dX10_readsCommand_75 (by decide) (fun c9 => ?_) (fun c9 => ?_)
          · rw [if_neg c9] at hQ
            refine ev_aload_n (ev_o 10 a) dX10_readsCommand_87 rfl rfl ?_
            refine ev_iload_n ((S16.1 a 21)) dX10_readsCommand_88 rfl ?_
            refine ev_cV mv_X10_readsSingle 6 0 10 [ev_i (S16.1 a 21)] [] dX10_readsCommand_89 kw_2005 rfl (by decide) rfl (by omega) (by decide) (Nat.le_of_ble_eq_true rfl) hQ ?_ rfl
            rintro o S20 ⟨rfl, hQ⟩
            show ev_E g m_X10_readsCommand (D + 2) 0 92 [some (ev_o 10 a), some (ev_i x0), some (ev_i v1_), some (ev_i (S16.1 a 21))] [] S20 Q
            refine ev_aload_n (ev_o 10 a) dX10_readsCommand_92 rfl rfl ?_
            refine ev_bipush (59) dX10_readsCommand_93 (by decide) ?_
            refine ev_cV mv_X10_takesSign 4 0 10 [ev_i 59] [] dX10_readsCommand_95 kw_1810 rfl (by decide) rfl (by omega) (by decide) (Nat.le_of_ble_eq_true rfl) hQ ?_ rfl
            rintro o S21 ⟨rfl, hQ⟩
            show ev_E g m_X10_readsCommand (D + 2) 0 98 [some (ev_o 10 a), some (ev_i x0), some (ev_i v1_), some (ev_i (S16.1 a 21))] [] S21 Q
            exact ev_return dX10_readsCommand_98 rfl hQ
          · rw [if_pos c9] at hQ
            refine ev_aload_n (ev_o 10 a) dX10_readsCommand_78 rfl rfl ?_
            refine ev_iload_n ((S16.1 a 21)) dX10_readsCommand_79 rfl ?_
            refine ev_iload_n (x0) dX10_readsCommand_80 rfl ?_
            refine ev_cV mv_X10_readsRepeat (D + 1) 0 10 [ev_i (S16.1 a 21), ev_i x0] [] dX10_readsCommand_81 kw_1997 rfl (by decide) rfl (by omega) (by decide) (Nat.le_of_ble_eq_true rfl) hQ ?_ rfl
            rintro o S22 ⟨rfl, hQ⟩
            show ev_E g m_X10_readsCommand (D + 2) 0 84 [some (ev_o 10 a), some (ev_i x0), some (ev_i v1_), some (ev_i (S16.1 a 21))] [] S22 Q
            refine ev_goto 92 dX10_readsCommand_84 (by decide) ?_
            refine ev_aload_n (ev_o 10 a) dX10_readsCommand_92 rfl rfl ?_
            refine ev_bipush (59) dX10_readsCommand_93 (by decide) ?_
            refine ev_cV mv_X10_takesSign 4 0 10 [ev_i 59] [] dX10_readsCommand_95 kw_1810 rfl (by decide) rfl (by omega) (by decide) (Nat.le_of_ble_eq_true rfl) hQ ?_ rfl
            rintro o S23 ⟨rfl, hQ⟩
            show ev_E g m_X10_readsCommand (D + 2) 0 98 [some (ev_o 10 a), some (ev_i x0), some (ev_i v1_), some (ev_i (S16.1 a 21))] [] S23 Q
            exact ev_return dX10_readsCommand_98 rfl hQ
        · rw [if_neg c8]
          rw [if_neg c8] at hQ
          refine ev_if_ne 46 dX10_readsCommand_42 (by decide) (fun h9 => absurd (by decide : ((0 : Int32) = 0)) h9) (fun _ => ?_)
          exact ev_return dX10_readsCommand_45 rfl hQ
      · rw [if_neg c7] at hQ
        refine ev_iconst (1) dX10_readsCommand_33 rfl ?_
        refine ev_goto 38 dX10_readsCommand_34 (by decide) ?_
        refine ev_iconst (4) dX10_readsCommand_38 rfl ?_
        refine ev_cV mv_X10_must 1 0 10 [ev_i 1, ev_i 4] [] dX10_readsCommand_39 kw_1794 rfl (by decide) rfl (by omega) (by decide) (Nat.le_of_ble_eq_true rfl) hQ ?_ rfl
        rintro o S24 ⟨v18_, rfl, hQ⟩
        show ev_E g m_X10_readsCommand (D + 2) 0 42 [some (ev_o 10 a), some (ev_i x0), some (ev_i v1_), none] [ev_i (if v18_ = true then 1 else 0)] S24 Q
        by_cases c10 : v18_ = true
        · rw [if_pos c10]
          rw [if_pos c10] at hQ
          refine ev_if_ne 46 dX10_readsCommand_42 (by decide) (fun _ => ?_) (fun h9 => absurd h9 (by decide : ¬ ((1 : Int32) = 0)))
          refine ev_aload_n (ev_o 10 a) dX10_readsCommand_46 rfl rfl ?_
          refine gf_10_21 dX10_readsCommand_47 kw_1874 ?_
          refine ev_istore_n dX10_readsCommand_50 (Nat.le_of_ble_eq_true rfl) (ev_hw rfl) ?_
          show ev_E g m_X10_readsCommand (D + 2) 0 51 [some (ev_o 10 a), some (ev_i x0), some (ev_i v1_), some (ev_i (S24.1 a 21))] [] S24 Q
          refine ev_aload_n (ev_o 10 a) dX10_readsCommand_51 rfl rfl ?_
          refine gf_10_19 dX10_readsCommand_52 kw_1872 ?_
          refine ev_iload_n ((S24.1 a 21)) dX10_readsCommand_55 rfl ?_
          refine ev_iload_n (v1_) dX10_readsCommand_56 rfl ?_
          obtain ⟨h4, hQ⟩ := hQ
          refine ev_iastore dX10_readsCommand_57 h4 ?_
          obtain ⟨S25, hS25⟩ : ∃ z, z = (ev_up S24 (a + 8) (S24.1 a 21).toNatClampNeg v1_) := ⟨_, rfl⟩
          refine ev_E.goal (pc' := 58) (L' := [some (ev_o 10 a), some (ev_i x0), some (ev_i v1_), some (ev_i (S24.1 a 21))]) (K' := []) (S' := S25) ?_ rfl rfl rfl hS25
          replace hQ := hQ S25 hS25
          refine ev_aload_n (ev_o 10 a) dX10_readsCommand_58 rfl rfl ?_
          refine ev_dup dX10_readsCommand_59 rfl ?_
          refine gf_10_21 dX10_readsCommand_60 kw_1874 ?_
          refine ev_ke (j_rk hS25 (Or.inl (by omega))) ?_
          refine ev_iconst (1) dX10_readsCommand_63 rfl ?_
          refine ev_iadd dX10_readsCommand_64 ?_
          refine pf_10_21 dX10_readsCommand_65 kw_1874 ?_
          obtain ⟨S26, hS26⟩ : ∃ z, z = (ev_up S25 a 21 ((S24.1 a 21) + 1)) := ⟨_, rfl⟩
          refine ev_E.goal (pc' := 68) (L' := [some (ev_o 10 a), some (ev_i x0), some (ev_i v1_), some (ev_i (S24.1 a 21))]) (K' := []) (S' := S26) ?_ rfl rfl rfl hS26
          replace hQ := hQ S26 hS26
          refine ev_aload_n (ev_o 10 a) dX10_readsCommand_68 rfl rfl ?_
          refine ev_cV mv_X10_reads 2 0 10 [] [] dX10_readsCommand_69 kw_1773 rfl (by decide) rfl (by omega) (by decide) (Nat.le_of_ble_eq_true rfl) hQ ?_ rfl
          rintro o S27 ⟨rfl, hQ⟩
          show ev_E g m_X10_readsCommand (D + 2) 0 72 [some (ev_o 10 a), some (ev_i x0), some (ev_i v1_), some (ev_i (S24.1 a 21))] [] S27 Q
          refine ev_iload_n (v1_) dX10_readsCommand_72 rfl ?_
          refine ev_bipush (6) dX10_readsCommand_73 (by decide) ?_
          refine ev_icmp_ne 87 dX10_readsCommand_75 (by decide) (fun c11 => ?_) (fun c11 => ?_)
          · rw [if_neg c11] at hQ
            refine ev_aload_n (ev_o 10 a) dX10_readsCommand_87 rfl rfl ?_
            refine ev_iload_n ((S24.1 a 21)) dX10_readsCommand_88 rfl ?_
            refine ev_cV mv_X10_readsSingle 6 0 10 [ev_i (S24.1 a 21)] [] dX10_readsCommand_89 kw_2005 rfl (by decide) rfl (by omega) (by decide) (Nat.le_of_ble_eq_true rfl) hQ ?_ rfl
            rintro o S28 ⟨rfl, hQ⟩
            show ev_E g m_X10_readsCommand (D + 2) 0 92 [some (ev_o 10 a), some (ev_i x0), some (ev_i v1_), some (ev_i (S24.1 a 21))] [] S28 Q
            refine ev_aload_n (ev_o 10 a) dX10_readsCommand_92 rfl rfl ?_
            refine ev_bipush (59) dX10_readsCommand_93 (by decide) ?_
            refine ev_cV mv_X10_takesSign 4 0 10 [ev_i 59] [] dX10_readsCommand_95 kw_1810 rfl (by decide) rfl (by omega) (by decide) (Nat.le_of_ble_eq_true rfl) hQ ?_ rfl
            rintro o S29 ⟨rfl, hQ⟩
            show ev_E g m_X10_readsCommand (D + 2) 0 98 [some (ev_o 10 a), some (ev_i x0), some (ev_i v1_), some (ev_i (S24.1 a 21))] [] S29 Q
            exact ev_return dX10_readsCommand_98 rfl hQ
          · rw [if_pos c11] at hQ
            refine ev_aload_n (ev_o 10 a) dX10_readsCommand_78 rfl rfl ?_
            refine ev_iload_n ((S24.1 a 21)) dX10_readsCommand_79 rfl ?_
            refine ev_iload_n (x0) dX10_readsCommand_80 rfl ?_
            refine ev_cV mv_X10_readsRepeat (D + 1) 0 10 [ev_i (S24.1 a 21), ev_i x0] [] dX10_readsCommand_81 kw_1997 rfl (by decide) rfl (by omega) (by decide) (Nat.le_of_ble_eq_true rfl) hQ ?_ rfl
            rintro o S30 ⟨rfl, hQ⟩
            show ev_E g m_X10_readsCommand (D + 2) 0 84 [some (ev_o 10 a), some (ev_i x0), some (ev_i v1_), some (ev_i (S24.1 a 21))] [] S30 Q
            refine ev_goto 92 dX10_readsCommand_84 (by decide) ?_
            refine ev_aload_n (ev_o 10 a) dX10_readsCommand_92 rfl rfl ?_
            refine ev_bipush (59) dX10_readsCommand_93 (by decide) ?_
            refine ev_cV mv_X10_takesSign 4 0 10 [ev_i 59] [] dX10_readsCommand_95 kw_1810 rfl (by decide) rfl (by omega) (by decide) (Nat.le_of_ble_eq_true rfl) hQ ?_ rfl
            rintro o S31 ⟨rfl, hQ⟩
            show ev_E g m_X10_readsCommand (D + 2) 0 98 [some (ev_o 10 a), some (ev_i x0), some (ev_i v1_), some (ev_i (S24.1 a 21))] [] S31 Q
            exact ev_return dX10_readsCommand_98 rfl hQ
        · rw [if_neg c10]
          rw [if_neg c10] at hQ
          refine ev_if_ne 46 dX10_readsCommand_42 (by decide) (fun h9 => absurd (by decide : ((0 : Int32) = 0)) h9) (fun _ => ?_)
          exact ev_return dX10_readsCommand_45 rfl hQ
    · rw [if_neg c6]
      rw [if_neg c6] at hQ
      refine ev_if_eq 45 dX10_readsCommand_20 (by decide) (fun _ => ?_) (fun h9 => absurd (by decide : ((0 : Int32) = 0)) h9)
      exact ev_return dX10_readsCommand_45 rfl hQ
set_option maxHeartbeats 4000000 in
set_option maxRecDepth 100000 in
theorem sg_X10_readsCommands_0 {g : ev_G} {S : ev_S} {Q : ev_O → ev_S → Prop} {D : Nat} (hD : 20 ≤ D) (a : Nat) (x0 : Int32) (hQ : if (S.1 a 17) = 0 then (
    if (S.1 a 15) = 0 then (
      Q (.inl none) S)
    else (
      (((S.1 a 17) = 0) → ((S.1 a 15) = 3) → ¬ ((S.1 a 10) ≤ (S.1 a 14)) → vp_in (S.1 a 14) 800) ∧ (
        if (t_X10_isSign S a 41) = true then (
          Q (.inl none) S)
        else (
          ev_Cv g m_X10_readsCommand (D + 2) 0 [ev_o 10 a, ev_i x0] S (fun o S1 => o = .inl none ∧ (
            ev_E g m_X10_readsCommands (D + 3) 0 0 [some (ev_o 10 a), some (ev_i x0)] [] S1 Q))))))
  else (
    Q (.inl none) S)) : ev_Cv g m_X10_readsCommands (D + 3) 0 [ev_o 10 a, ev_i x0] S Q := by
  refine ev_enter (by decide) rfl rfl (Nat.le_of_ble_eq_true rfl) ?_
  show ev_E g m_X10_readsCommands (D + 3) 0 0 [some (ev_o 10 a), some (ev_i x0)] [] S Q
  refine ev_aload_n (ev_o 10 a) dX10_readsCommands_0 rfl rfl ?_
  refine gf_10_17 dX10_readsCommands_1 kw_1870 ?_
  refine ev_if_ne 31 dX10_readsCommands_4 (by decide) (fun c1 => ?_) (fun c1 => ?_)
  · rw [if_neg c1] at hQ
    exact ev_return dX10_readsCommands_31 rfl hQ
  · rw [if_pos c1] at hQ
    refine ev_aload_n (ev_o 10 a) dX10_readsCommands_7 rfl rfl ?_
    refine gf_10_15 dX10_readsCommands_8 kw_1868 ?_
    refine ev_if_eq 31 dX10_readsCommands_11 (by decide) (fun c2 => ?_) (fun c2 => ?_)
    · rw [if_pos c2] at hQ
      exact ev_return dX10_readsCommands_31 rfl hQ
    · rw [if_neg c2] at hQ
      refine ev_aload_n (ev_o 10 a) dX10_readsCommands_14 rfl rfl ?_
      refine ev_bipush (41) dX10_readsCommands_15 (by decide) ?_
      obtain ⟨h1, hQ⟩ := hQ
      refine ev_fV mv_X10_isSign 2 10 [ev_i 41] [] dX10_readsCommands_17 kw_1814 rfl (by decide) rfl (by omega) (Nat.le_of_ble_eq_true rfl) (sp_X10_isSign a 41 h1) ?_ rfl
      by_cases c3 : (t_X10_isSign S a 41) = true
      · rw [if_pos c3]
        rw [if_pos c3] at hQ
        refine ev_if_ne 31 dX10_readsCommands_20 (by decide) (fun _ => ?_) (fun h9 => absurd h9 (by decide : ¬ ((1 : Int32) = 0)))
        exact ev_return dX10_readsCommands_31 rfl hQ
      · rw [if_neg c3]
        rw [if_neg c3] at hQ
        refine ev_if_ne 31 dX10_readsCommands_20 (by decide) (fun h9 => absurd (by decide : ((0 : Int32) = 0)) h9) (fun _ => ?_)
        refine ev_aload_n (ev_o 10 a) dX10_readsCommands_23 rfl rfl ?_
        refine ev_iload_n (x0) dX10_readsCommands_24 rfl ?_
        refine ev_cV mv_X10_readsCommand (D + 2) 0 10 [ev_i x0] [] dX10_readsCommands_25 kw_1983 rfl (by decide) rfl (by omega) (by decide) (Nat.le_of_ble_eq_true rfl) hQ ?_ rfl
        rintro o S1 ⟨rfl, hQ⟩
        show ev_E g m_X10_readsCommands (D + 3) 0 28 [some (ev_o 10 a), some (ev_i x0)] [] S1 Q
        refine ev_goto 0 dX10_readsCommands_28 (by decide) ?_
        exact hQ
set_option maxHeartbeats 4000000 in
set_option maxRecDepth 100000 in
theorem sg_X10_readsCommands_0 {g : ev_G} {S : ev_S} {Q : ev_O → ev_S → Prop} {D : Nat} (hD : 20 ≤ D) (a : Nat) (u1 : Int32) (hQ : if (S.1 a 17) = 0 then (
    if (S.1 a 15) = 0 then (
      Q (.inl none) S)
    else (
      (((S.1 a 17) = 0) → ((S.1 a 15) = 3) → ¬ ((S.1 a 10) ≤ (S.1 a 14)) → vp_in (S.1 a 14) 800) ∧ (
        if (t_X10_isSign S a 41) = true then (
          Q (.inl none) S)
        else (
          ev_Cv g m_X10_readsCommand (D + 2) 0 [ev_o 10 a, ev_i u1] S (fun o S1 => o = .inl none ∧ (
            ev_E g m_X10_readsCommands (D + 3) 0 0 [some (ev_o 10 a), some (ev_i u1)] [] S1 Q))))))
  else (
    Q (.inl none) S)) : ev_Cv g m_X10_readsCommands (D + 3) 0 [ev_o 10 a, ev_i x0] S Q := by
  refine ev_enter (by decide) rfl rfl (Nat.le_of_ble_eq_true rfl) ?_
  show ev_E g m_X10_readsCommands (D + 3) 0 0 [some (ev_o 10 a), some (ev_i u1)] [] S Q
  refine ev_aload_n (ev_o 10 a) dX10_readsCommands_0 rfl rfl ?_
  refine gf_10_17 dX10_readsCommands_1 kw_1870 ?_
  refine ev_if_ne 31 dX10_readsCommands_4 (by decide) (fun c1 => ?_) (fun c1 => ?_)
  · rw [if_neg c1] at hQ
    exact ev_return dX10_readsCommands_31 rfl hQ
  · rw [if_pos c1] at hQ
    refine ev_aload_n (ev_o 10 a) dX10_readsCommands_7 rfl rfl ?_
    refine gf_10_15 dX10_readsCommands_8 kw_1868 ?_
    refine ev_if_eq 31 dX10_readsCommands_11 (by decide) (fun c2 => ?_) (fun c2 => ?_)
    · rw [if_pos c2] at hQ
      exact ev_return dX10_readsCommands_31 rfl hQ
    · rw [if_neg c2] at hQ
      refine ev_aload_n (ev_o 10 a) dX10_readsCommands_14 rfl rfl ?_
      refine ev_bipush (41) dX10_readsCommands_15 (by decide) ?_
      obtain ⟨h1, hQ⟩ := hQ
      refine ev_fV mv_X10_isSign 2 10 [ev_i 41] [] dX10_readsCommands_17 kw_1814 rfl (by decide) rfl (by omega) (Nat.le_of_ble_eq_true rfl) (sp_X10_isSign a 41 h1) ?_ rfl
      by_cases c3 : (t_X10_isSign S a 41) = true
      · rw [if_pos c3]
        rw [if_pos c3] at hQ
        refine ev_if_ne 31 dX10_readsCommands_20 (by decide) (fun _ => ?_) (fun h9 => absurd h9 (by decide : ¬ ((1 : Int32) = 0)))
        exact ev_return dX10_readsCommands_31 rfl hQ
      · rw [if_neg c3]
        rw [if_neg c3] at hQ
        refine ev_if_ne 31 dX10_readsCommands_20 (by decide) (fun h9 => absurd (by decide : ((0 : Int32) = 0)) h9) (fun _ => ?_)
        refine ev_aload_n (ev_o 10 a) dX10_readsCommands_23 rfl rfl ?_
        refine ev_iload_n (u1) dX10_readsCommands_24 rfl ?_
        refine ev_cV mv_X10_readsCommand (D + 2) 0 10 [ev_i u1] [] dX10_readsCommands_25 kw_1983 rfl (by decide) rfl (by omega) (by decide) (Nat.le_of_ble_eq_true rfl) hQ ?_ rfl
        rintro o S1 ⟨rfl, hQ⟩
        show ev_E g m_X10_readsCommands (D + 3) 0 28 [some (ev_o 10 a), some (ev_i u1)] [] S1 Q
        refine ev_goto 0 dX10_readsCommands_28 (by decide) ?_
        exact hQ
set_option maxHeartbeats 4000000 in
set_option maxRecDepth 100000 in
theorem sg_X10_readsRepeat_0 {g : ev_G} {S : ev_S} {Q : ev_O → ev_S → Prop} {D : Nat} (hD : 20 ≤ D) (a : Nat) (x0 : Int32) (x1 : Int32) (hQ : ev_Cv g m_X10_keepsNumber 5 0 [ev_o 10 a, ev_i x0, ev_i 0, ev_i 0, ev_i 20] S (fun o S1 => o = .inl none ∧ (
    (((S1.1 a 17) = 0) → ((S1.1 a 15) = 3) → ¬ ((S1.1 a 10) ≤ (S1.1 a 14)) → vp_in (S1.1 a 14) 800) ∧ (
      if (t_X10_isSign S1 a 40) = true then (
        ev_Cv g m_X10_must 1 0 [ev_o 10 a, ev_i 1, ev_i 1] S1 (fun o S2 => ∃ v2_ : Bool, o = .inl (some (ev_i (if v2_ = true then 1 else 0))) ∧ (
          if v2_ = true then (
            if 2 ≤ x1 then (
              ev_Cv g m_X10_must 1 0 [ev_o 10 a, ev_i 0, ev_i 4] S2 (fun o S3 => ∃ v3_ : Bool, o = .inl (some (ev_i (if v3_ = true then 1 else 0))) ∧ (
                ev_Cv g m_X10_passes 3 0 [ev_o 10 a] S3 (fun o S4 => o = .inl none ∧ (
                  ev_Cv g m_X10_readsCommands D 0 [ev_o 10 a, ev_i (x1 + 1)] S4 (fun o S5 => o = .inl none ∧ (
                    ev_Cv g m_X10_takesSign 4 0 [ev_o 10 a, ev_i 41] S5 (fun o S6 => o = .inl none ∧ (
                      (vp_in ((6 * x0) + 1) 180) ∧ (
                        ∀ S7 : ev_S, S7 = (ev_up S6 (a + 9) ((6 * x0) + 1).toNatClampNeg (S6.1 a 21)) → (
                          Q (.inl none) S7)))))))))))
            else (
              ev_Cv g m_X10_must 1 0 [ev_o 10 a, ev_i 1, ev_i 4] S2 (fun o S8 => ∃ v7_ : Bool, o = .inl (some (ev_i (if v7_ = true then 1 else 0))) ∧ (
                ev_Cv g m_X10_passes 3 0 [ev_o 10 a] S8 (fun o S9 => o = .inl none ∧ (
                  ev_Cv g m_X10_readsCommands D 0 [ev_o 10 a, ev_i (x1 + 1)] S9 (fun o S10 => o = .inl none ∧ (
                    ev_Cv g m_X10_takesSign 4 0 [ev_o 10 a, ev_i 41] S10 (fun o S11 => o = .inl none ∧ (
                      (vp_in ((6 * x0) + 1) 180) ∧ (
                        ∀ S12 : ev_S, S12 = (ev_up S11 (a + 9) ((6 * x0) + 1).toNatClampNeg (S11.1 a 21)) → (
                          Q (.inl none) S12))))))))))))
          else (
            ev_Cv g m_X10_passes 3 0 [ev_o 10 a] S2 (fun o S13 => o = .inl none ∧ (
              ev_Cv g m_X10_readsCommands D 0 [ev_o 10 a, ev_i (x1 + 1)] S13 (fun o S14 => o = .inl none ∧ (
                ev_Cv g m_X10_takesSign 4 0 [ev_o 10 a, ev_i 41] S14 (fun o S15 => o = .inl none ∧ (
                  (vp_in ((6 * x0) + 1) 180) ∧ (
                    ∀ S16 : ev_S, S16 = (ev_up S15 (a + 9) ((6 * x0) + 1).toNatClampNeg (S15.1 a 21)) → (
                      Q (.inl none) S16))))))))))))
      else (
        ev_Cv g m_X10_must 1 0 [ev_o 10 a, ev_i 0, ev_i 1] S1 (fun o S17 => ∃ v14_ : Bool, o = .inl (some (ev_i (if v14_ = true then 1 else 0))) ∧ (
          if v14_ = true then (
            if 2 ≤ x1 then (
              ev_Cv g m_X10_must 1 0 [ev_o 10 a, ev_i 0, ev_i 4] S17 (fun o S18 => ∃ v15_ : Bool, o = .inl (some (ev_i (if v15_ = true then 1 else 0))) ∧ (
                ev_Cv g m_X10_passes 3 0 [ev_o 10 a] S18 (fun o S19 => o = .inl none ∧ (
                  ev_Cv g m_X10_readsCommands D 0 [ev_o 10 a, ev_i (x1 + 1)] S19 (fun o S20 => o = .inl none ∧ (
                    ev_Cv g m_X10_takesSign 4 0 [ev_o 10 a, ev_i 41] S20 (fun o S21 => o = .inl none ∧ (
                      (vp_in ((6 * x0) + 1) 180) ∧ (
                        ∀ S22 : ev_S, S22 = (ev_up S21 (a + 9) ((6 * x0) + 1).toNatClampNeg (S21.1 a 21)) → (
                          Q (.inl none) S22)))))))))))
            else (
              ev_Cv g m_X10_must 1 0 [ev_o 10 a, ev_i 1, ev_i 4] S17 (fun o S23 => ∃ v19_ : Bool, o = .inl (some (ev_i (if v19_ = true then 1 else 0))) ∧ (
                ev_Cv g m_X10_passes 3 0 [ev_o 10 a] S23 (fun o S24 => o = .inl none ∧ (
                  ev_Cv g m_X10_readsCommands D 0 [ev_o 10 a, ev_i (x1 + 1)] S24 (fun o S25 => o = .inl none ∧ (
                    ev_Cv g m_X10_takesSign 4 0 [ev_o 10 a, ev_i 41] S25 (fun o S26 => o = .inl none ∧ (
                      (vp_in ((6 * x0) + 1) 180) ∧ (
                        ∀ S27 : ev_S, S27 = (ev_up S26 (a + 9) ((6 * x0) + 1).toNatClampNeg (S26.1 a 21)) → (
                          Q (.inl none) S27))))))))))))
          else (
            ev_Cv g m_X10_passes 3 0 [ev_o 10 a] S17 (fun o S28 => o = .inl none ∧ (
              ev_Cv g m_X10_readsCommands D 0 [ev_o 10 a, ev_i (x1 + 1)] S28 (fun o S29 => o = .inl none ∧ (
                ev_Cv g m_X10_takesSign 4 0 [ev_o 10 a, ev_i 41] S29 (fun o S30 => o = .inl none ∧ (
                  (vp_in ((6 * x0) + 1) 180) ∧ (
                    ∀ S31 : ev_S, S31 = (ev_up S30 (a + 9) ((6 * x0) + 1).toNatClampNeg (S30.1 a 21)) → (
                      Q (.inl none) S31)))))))))))))))) : ev_Cv g m_X10_readsRepeat (D + 1) 0 [ev_o 10 a, ev_i x0, ev_i x1] S Q := by
  refine ev_enter (by decide) rfl rfl (Nat.le_of_ble_eq_true rfl) ?_
  show ev_E g m_X10_readsRepeat (D + 1) 0 0 [some (ev_o 10 a), some (ev_i x0), some (ev_i x1)] [] S Q
  refine ev_aload_n (ev_o 10 a) dX10_readsRepeat_0 rfl rfl ?_
  refine ev_iload_n (x0) dX10_readsRepeat_1 rfl ?_
  refine ev_iconst (0) dX10_readsRepeat_2 rfl ?_
  refine ev_iconst (0) dX10_readsRepeat_3 rfl ?_
  refine ev_bipush (20) dX10_readsRepeat_4 (by decide) ?_
  refine ev_cV mv_X10_keepsNumber 5 0 10 [ev_i x0, ev_i 0, ev_i 0, ev_i 20] [] dX10_readsRepeat_6 kw_2001 rfl (by decide) rfl (by omega) (by decide) (Nat.le_of_ble_eq_true rfl) hQ ?_ rfl
  rintro o S1 ⟨rfl, hQ⟩
  show ev_E g m_X10_readsRepeat (D + 1) 0 9 [some (ev_o 10 a), some (ev_i x0), some (ev_i x1)] [] S1 Q
  refine ev_aload_n (ev_o 10 a) dX10_readsRepeat_9 rfl rfl ?_
  refine ev_aload_n (ev_o 10 a) dX10_readsRepeat_10 rfl rfl ?_
  refine ev_bipush (40) dX10_readsRepeat_11 (by decide) ?_
  obtain ⟨h1, hQ⟩ := hQ
  refine ev_fV mv_X10_isSign 2 10 [ev_i 40] [ev_o 10 a] dX10_readsRepeat_13 kw_1814 rfl (by decide) rfl (by omega) (Nat.le_of_ble_eq_true rfl) (sp_X10_isSign a 40 h1) ?_ rfl
  by_cases c1 : (t_X10_isSign S1 a 40) = true
  · rw [if_pos c1]
    rw [if_pos c1] at hQ
    refine ev_iconst (1) dX10_readsRepeat_16 rfl ?_
    refine ev_cV mv_X10_must 1 0 10 [ev_i 1, ev_i 1] [] dX10_readsRepeat_17 kw_1794 rfl (by decide) rfl (by omega) (by decide) (Nat.le_of_ble_eq_true rfl) hQ ?_ rfl
    rintro o S2 ⟨v2_, rfl, hQ⟩
    show ev_E g m_X10_readsRepeat (D + 1) 0 20 [some (ev_o 10 a), some (ev_i x0), some (ev_i x1)] [ev_i (if v2_ = true then 1 else 0)] S2 Q
    by_cases c2 : v2_ = true
    · rw [if_pos c2]
      rw [if_pos c2] at hQ
      refine ev_if_eq 39 dX10_readsRepeat_20 (by decide) (fun h9 => absurd h9 (by decide : ¬ ((1 : Int32) = 0))) (fun _ => ?_)
      refine ev_aload_n (ev_o 10 a) dX10_readsRepeat_23 rfl rfl ?_
      refine ev_iload_n (x1) dX10_readsRepeat_24 rfl ?_
      refine ev_iconst (2) dX10_readsRepeat_25 rfl ?_
      refine ev_icmp_ge 33 dX10_readsRepeat_26 (by decide) (fun c3 => ?_) (fun c3 => ?_)
      · rw [if_pos c3] at hQ
        refine ev_iconst (0) dX10_readsRepeat_33 rfl ?_
        refine ev_iconst (4) dX10_readsRepeat_34 rfl ?_
        refine ev_cV mv_X10_must 1 0 10 [ev_i 0, ev_i 4] [] dX10_readsRepeat_35 kw_1794 rfl (by decide) rfl (by omega) (by decide) (Nat.le_of_ble_eq_true rfl) hQ ?_ rfl
        rintro o S3 ⟨v3_, rfl, hQ⟩
        show ev_E g m_X10_readsRepeat (D + 1) 0 38 [some (ev_o 10 a), some (ev_i x0), some (ev_i x1)] [ev_i (if v3_ = true then 1 else 0)] S3 Q
        refine ev_pop dX10_readsRepeat_38 rfl ?_
        refine ev_aload_n (ev_o 10 a) dX10_readsRepeat_39 rfl rfl ?_
        refine ev_cV mv_X10_passes 3 0 10 [] [] dX10_readsRepeat_40 kw_1798 rfl (by decide) rfl (by omega) (by decide) (Nat.le_of_ble_eq_true rfl) hQ ?_ rfl
        rintro o S4 ⟨rfl, hQ⟩
        show ev_E g m_X10_readsRepeat (D + 1) 0 43 [some (ev_o 10 a), some (ev_i x0), some (ev_i x1)] [] S4 Q
        refine ev_aload_n (ev_o 10 a) dX10_readsRepeat_43 rfl rfl ?_
        refine ev_iload_n (x1) dX10_readsRepeat_44 rfl ?_
        refine ev_iconst (1) dX10_readsRepeat_45 rfl ?_
        refine ev_iadd dX10_readsRepeat_46 ?_
        refine ev_cV mv_X10_readsCommands D 0 10 [ev_i (x1 + 1)] [] dX10_readsRepeat_47 kw_1979 rfl (by decide) rfl (by omega) (by decide) (Nat.le_of_ble_eq_true rfl) hQ ?_ rfl
        rintro o S5 ⟨rfl, hQ⟩
        show ev_E g m_X10_readsRepeat (D + 1) 0 50 [some (ev_o 10 a), some (ev_i x0), some (ev_i x1)] [] S5 Q
        refine ev_aload_n (ev_o 10 a) dX10_readsRepeat_50 rfl rfl ?_
        refine ev_bipush (41) dX10_readsRepeat_51 (by decide) ?_
        refine ev_cV mv_X10_takesSign 4 0 10 [ev_i 41] [] dX10_readsRepeat_53 kw_1810 rfl (by decide) rfl (by omega) (by decide) (Nat.le_of_ble_eq_true rfl) hQ ?_ rfl
        rintro o S6 ⟨rfl, hQ⟩
        show ev_E g m_X10_readsRepeat (D + 1) 0 56 [some (ev_o 10 a), some (ev_i x0), some (ev_i x1)] [] S6 Q
        refine ev_aload_n (ev_o 10 a) dX10_readsRepeat_56 rfl rfl ?_
        refine gf_10_20 dX10_readsRepeat_57 kw_1873 ?_
        refine ev_bipush (6) dX10_readsRepeat_60 (by decide) ?_
        refine ev_iload_n (x0) dX10_readsRepeat_62 rfl ?_
        refine ev_imul dX10_readsRepeat_63 ?_
        refine ev_iconst (1) dX10_readsRepeat_64 rfl ?_
        refine ev_iadd dX10_readsRepeat_65 ?_
        refine ev_aload_n (ev_o 10 a) dX10_readsRepeat_66 rfl rfl ?_
        refine gf_10_21 dX10_readsRepeat_67 kw_1874 ?_
        obtain ⟨h2, hQ⟩ := hQ
        refine ev_iastore dX10_readsRepeat_70 h2 ?_
        obtain ⟨S7, hS7⟩ : ∃ z, z = (ev_up S6 (a + 9) ((6 * x0) + 1).toNatClampNeg (S6.1 a 21)) := ⟨_, rfl⟩
        refine ev_E.goal (pc' := 71) (L' := [some (ev_o 10 a), some (ev_i x0), some (ev_i x1)]) (K' := []) (S' := S7) ?_ rfl rfl rfl hS7
        replace hQ := hQ S7 hS7
        exact ev_return dX10_readsRepeat_71 rfl hQ
      · rw [if_neg c3] at hQ
        refine ev_iconst (1) dX10_readsRepeat_29 rfl ?_
        refine ev_goto 34 dX10_readsRepeat_30 (by decide) ?_
        refine ev_iconst (4) dX10_readsRepeat_34 rfl ?_
        refine ev_cV mv_X10_must 1 0 10 [ev_i 1, ev_i 4] [] dX10_readsRepeat_35 kw_1794 rfl (by decide) rfl (by omega) (by decide) (Nat.le_of_ble_eq_true rfl) hQ ?_ rfl
        rintro o S8 ⟨v7_, rfl, hQ⟩
        show ev_E g m_X10_readsRepeat (D + 1) 0 38 [some (ev_o 10 a), some (ev_i x0), some (ev_i x1)] [ev_i (if v7_ = true then 1 else 0)] S8 Q
        refine ev_pop dX10_readsRepeat_38 rfl ?_
        refine ev_aload_n (ev_o 10 a) dX10_readsRepeat_39 rfl rfl ?_
        refine ev_cV mv_X10_passes 3 0 10 [] [] dX10_readsRepeat_40 kw_1798 rfl (by decide) rfl (by omega) (by decide) (Nat.le_of_ble_eq_true rfl) hQ ?_ rfl
        rintro o S9 ⟨rfl, hQ⟩
        show ev_E g m_X10_readsRepeat (D + 1) 0 43 [some (ev_o 10 a), some (ev_i x0), some (ev_i x1)] [] S9 Q
        refine ev_aload_n (ev_o 10 a) dX10_readsRepeat_43 rfl rfl ?_
        refine ev_iload_n (x1) dX10_readsRepeat_44 rfl ?_
        refine ev_iconst (1) dX10_readsRepeat_45 rfl ?_
        refine ev_iadd dX10_readsRepeat_46 ?_
        refine ev_cV mv_X10_readsCommands D 0 10 [ev_i (x1 + 1)] [] dX10_readsRepeat_47 kw_1979 rfl (by decide) rfl (by omega) (by decide) (Nat.le_of_ble_eq_true rfl) hQ ?_ rfl
        rintro o S10 ⟨rfl, hQ⟩
        show ev_E g m_X10_readsRepeat (D + 1) 0 50 [some (ev_o 10 a), some (ev_i x0), some (ev_i x1)] [] S10 Q
        refine ev_aload_n (ev_o 10 a) dX10_readsRepeat_50 rfl rfl ?_
        refine ev_bipush (41) dX10_readsRepeat_51 (by decide) ?_
        refine ev_cV mv_X10_takesSign 4 0 10 [ev_i 41] [] dX10_readsRepeat_53 kw_1810 rfl (by decide) rfl (by omega) (by decide) (Nat.le_of_ble_eq_true rfl) hQ ?_ rfl
        rintro o S11 ⟨rfl, hQ⟩
        show ev_E g m_X10_readsRepeat (D + 1) 0 56 [some (ev_o 10 a), some (ev_i x0), some (ev_i x1)] [] S11 Q
        refine ev_aload_n (ev_o 10 a) dX10_readsRepeat_56 rfl rfl ?_
        refine gf_10_20 dX10_readsRepeat_57 kw_1873 ?_
        refine ev_bipush (6) dX10_readsRepeat_60 (by decide) ?_
        refine ev_iload_n (x0) dX10_readsRepeat_62 rfl ?_
        refine ev_imul dX10_readsRepeat_63 ?_
        refine ev_iconst (1) dX10_readsRepeat_64 rfl ?_
        refine ev_iadd dX10_readsRepeat_65 ?_
        refine ev_aload_n (ev_o 10 a) dX10_readsRepeat_66 rfl rfl ?_
        refine gf_10_21 dX10_readsRepeat_67 kw_1874 ?_
        obtain ⟨h3, hQ⟩ := hQ
        refine ev_iastore dX10_readsRepeat_70 h3 ?_
        obtain ⟨S12, hS12⟩ : ∃ z, z = (ev_up S11 (a + 9) ((6 * x0) + 1).toNatClampNeg (S11.1 a 21)) := ⟨_, rfl⟩
        refine ev_E.goal (pc' := 71) (L' := [some (ev_o 10 a), some (ev_i x0), some (ev_i x1)]) (K' := []) (S' := S12) ?_ rfl rfl rfl hS12
        replace hQ := hQ S12 hS12
        exact ev_return dX10_readsRepeat_71 rfl hQ
    · rw [if_neg c2]
      rw [if_neg c2] at hQ
      refine ev_if_eq 39 dX10_readsRepeat_20 (by decide) (fun _ => ?_) (fun h9 => absurd (by decide : ((0 : Int32) = 0)) h9)
      refine ev_aload_n (ev_o 10 a) dX10_readsRepeat_39 rfl rfl ?_
      refine ev_cV mv_X10_passes 3 0 10 [] [] dX10_readsRepeat_40 kw_1798 rfl (by decide) rfl (by omega) (by decide) (Nat.le_of_ble_eq_true rfl) hQ ?_ rfl
      rintro o S13 ⟨rfl, hQ⟩
      show ev_E g m_X10_readsRepeat (D + 1) 0 43 [some (ev_o 10 a), some (ev_i x0), some (ev_i x1)] [] S13 Q
      refine ev_aload_n (ev_o 10 a) dX10_readsRepeat_43 rfl rfl ?_
      refine ev_iload_n (x1) dX10_readsRepeat_44 rfl ?_
      refine ev_iconst (1) dX10_readsRepeat_45 rfl ?_
      refine ev_iadd dX10_readsRepeat_46 ?_
      refine ev_cV mv_X10_readsCommands D 0 10 [ev_i (x1 + 1)] [] dX10_readsRepeat_47 kw_1979 rfl (by decide) rfl (by omega) (by decide) (Nat.le_of_ble_eq_true rfl) hQ ?_ rfl
      rintro o S14 ⟨rfl, hQ⟩
      show ev_E g m_X10_readsRepeat (D + 1) 0 50 [some (ev_o 10 a), some (ev_i x0), some (ev_i x1)] [] S14 Q
      refine ev_aload_n (ev_o 10 a) dX10_readsRepeat_50 rfl rfl ?_
      refine ev_bipush (41) dX10_readsRepeat_51 (by decide) ?_
      refine ev_cV mv_X10_takesSign 4 0 10 [ev_i 41] [] dX10_readsRepeat_53 kw_1810 rfl (by decide) rfl (by omega) (by decide) (Nat.le_of_ble_eq_true rfl) hQ ?_ rfl
      rintro o S15 ⟨rfl, hQ⟩
      show ev_E g m_X10_readsRepeat (D + 1) 0 56 [some (ev_o 10 a), some (ev_i x0), some (ev_i x1)] [] S15 Q
      refine ev_aload_n (ev_o 10 a) dX10_readsRepeat_56 rfl rfl ?_
      refine gf_10_20 dX10_readsRepeat_57 kw_1873 ?_
      refine ev_bipush (6) dX10_readsRepeat_60 (by decide) ?_
      refine ev_iload_n (x0) dX10_readsRepeat_62 rfl ?_
      refine ev_imul dX10_readsRepeat_63 ?_
      refine ev_iconst (1) dX10_readsRepeat_64 rfl ?_
      refine ev_iadd dX10_readsRepeat_65 ?_
      refine ev_aload_n (ev_o 10 a) dX10_readsRepeat_66 rfl rfl ?_
      refine gf_10_21 dX10_readsRepeat_67 kw_1874 ?_
      obtain ⟨h4, hQ⟩ := hQ
      refine ev_iastore dX10_readsRepeat_70 h4 ?_
      obtain ⟨S16, hS16⟩ : ∃ z, z = (ev_up S15 (a + 9) ((6 * x0) + 1).toNatClampNeg (S15.1 a 21)) := ⟨_, rfl⟩
      refine ev_E.goal (pc' := 71) (L' := [some (ev_o 10 a), some (ev_i x0), some (ev_i x1)]) (K' := []) (S' := S16) ?_ rfl rfl rfl hS16
      replace hQ := hQ S16 hS16
      exact ev_return dX10_readsRepeat_71 rfl hQ
  · rw [if_neg c1]
    rw [if_neg c1] at hQ
    refine ev_iconst (1) dX10_readsRepeat_16 rfl ?_
    refine ev_cV mv_X10_must 1 0 10 [ev_i 0, ev_i 1] [] dX10_readsRepeat_17 kw_1794 rfl (by decide) rfl (by omega) (by decide) (Nat.le_of_ble_eq_true rfl) hQ ?_ rfl
    rintro o S17 ⟨v14_, rfl, hQ⟩
    show ev_E g m_X10_readsRepeat (D + 1) 0 20 [some (ev_o 10 a), some (ev_i x0), some (ev_i x1)] [ev_i (if v14_ = true then 1 else 0)] S17 Q
    by_cases c4 : v14_ = true
    · rw [if_pos c4]
      rw [if_pos c4] at hQ
      refine ev_if_eq 39 dX10_readsRepeat_20 (by decide) (fun h9 => absurd h9 (by decide : ¬ ((1 : Int32) = 0))) (fun _ => ?_)
      refine ev_aload_n (ev_o 10 a) dX10_readsRepeat_23 rfl rfl ?_
      refine ev_iload_n (x1) dX10_readsRepeat_24 rfl ?_
      refine ev_iconst (2) dX10_readsRepeat_25 rfl ?_
      refine ev_icmp_ge 33 dX10_readsRepeat_26 (by decide) (fun c5 => ?_) (fun c5 => ?_)
      · rw [if_pos c5] at hQ
        refine ev_iconst (0) dX10_readsRepeat_33 rfl ?_
        refine ev_iconst (4) dX10_readsRepeat_34 rfl ?_
        refine ev_cV mv_X10_must 1 0 10 [ev_i 0, ev_i 4] [] dX10_readsRepeat_35 kw_1794 rfl (by decide) rfl (by omega) (by decide) (Nat.le_of_ble_eq_true rfl) hQ ?_ rfl
        rintro o S18 ⟨v15_, rfl, hQ⟩
        show ev_E g m_X10_readsRepeat (D + 1) 0 38 [some (ev_o 10 a), some (ev_i x0), some (ev_i x1)] [ev_i (if v15_ = true then 1 else 0)] S18 Q
        refine ev_pop dX10_readsRepeat_38 rfl ?_
        refine ev_aload_n (ev_o 10 a) dX10_readsRepeat_39 rfl rfl ?_
        refine ev_cV mv_X10_passes 3 0 10 [] [] dX10_readsRepeat_40 kw_1798 rfl (by decide) rfl (by omega) (by decide) (Nat.le_of_ble_eq_true rfl) hQ ?_ rfl
        rintro o S19 ⟨rfl, hQ⟩
        show ev_E g m_X10_readsRepeat (D + 1) 0 43 [some (ev_o 10 a), some (ev_i x0), some (ev_i x1)] [] S19 Q
        refine ev_aload_n (ev_o 10 a) dX10_readsRepeat_43 rfl rfl ?_
        refine ev_iload_n (x1) dX10_readsRepeat_44 rfl ?_
        refine ev_iconst (1) dX10_readsRepeat_45 rfl ?_
        refine ev_iadd dX10_readsRepeat_46 ?_
        refine ev_cV mv_X10_readsCommands D 0 10 [ev_i (x1 + 1)] [] dX10_readsRepeat_47 kw_1979 rfl (by decide) rfl (by omega) (by decide) (Nat.le_of_ble_eq_true rfl) hQ ?_ rfl
        rintro o S20 ⟨rfl, hQ⟩
        show ev_E g m_X10_readsRepeat (D + 1) 0 50 [some (ev_o 10 a), some (ev_i x0), some (ev_i x1)] [] S20 Q
        refine ev_aload_n (ev_o 10 a) dX10_readsRepeat_50 rfl rfl ?_
        refine ev_bipush (41) dX10_readsRepeat_51 (by decide) ?_
        refine ev_cV mv_X10_takesSign 4 0 10 [ev_i 41] [] dX10_readsRepeat_53 kw_1810 rfl (by decide) rfl (by omega) (by decide) (Nat.le_of_ble_eq_true rfl) hQ ?_ rfl
        rintro o S21 ⟨rfl, hQ⟩
        show ev_E g m_X10_readsRepeat (D + 1) 0 56 [some (ev_o 10 a), some (ev_i x0), some (ev_i x1)] [] S21 Q
        refine ev_aload_n (ev_o 10 a) dX10_readsRepeat_56 rfl rfl ?_
        refine gf_10_20 dX10_readsRepeat_57 kw_1873 ?_
        refine ev_bipush (6) dX10_readsRepeat_60 (by decide) ?_
        refine ev_iload_n (x0) dX10_readsRepeat_62 rfl ?_
        refine ev_imul dX10_readsRepeat_63 ?_
        refine ev_iconst (1) dX10_readsRepeat_64 rfl ?_
        refine ev_iadd dX10_readsRepeat_65 ?_
        refine ev_aload_n (ev_o 10 a) dX10_readsRepeat_66 rfl rfl ?_
        refine gf_10_21 dX10_readsRepeat_67 kw_1874 ?_
        obtain ⟨h5, hQ⟩ := hQ
        refine ev_iastore dX10_readsRepeat_70 h5 ?_
        obtain ⟨S22, hS22⟩ : ∃ z, z = (ev_up S21 (a + 9) ((6 * x0) + 1).toNatClampNeg (S21.1 a 21)) := ⟨_, rfl⟩
        refine ev_E.goal (pc' := 71) (L' := [some (ev_o 10 a), some (ev_i x0), some (ev_i x1)]) (K' := []) (S' := S22) ?_ rfl rfl rfl hS22
        replace hQ := hQ S22 hS22
        exact ev_return dX10_readsRepeat_71 rfl hQ
      · rw [if_neg c5] at hQ
        refine ev_iconst (1) dX10_readsRepeat_29 rfl ?_
        refine ev_goto 34 dX10_readsRepeat_30 (by decide) ?_
        refine ev_iconst (4) dX10_readsRepeat_34 rfl ?_
        refine ev_cV mv_X10_must 1 0 10 [ev_i 1, ev_i 4] [] dX10_readsRepeat_35 kw_1794 rfl (by decide) rfl (by omega) (by decide) (Nat.le_of_ble_eq_true rfl) hQ ?_ rfl
        rintro o S23 ⟨v19_, rfl, hQ⟩
        show ev_E g m_X10_readsRepeat (D + 1) 0 38 [some (ev_o 10 a), some (ev_i x0), some (ev_i x1)] [ev_i (if v19_ = true then 1 else 0)] S23 Q
        refine ev_pop dX10_readsRepeat_38 rfl ?_
        refine ev_aload_n (ev_o 10 a) dX10_readsRepeat_39 rfl rfl ?_
        refine ev_cV mv_X10_passes 3 0 10 [] [] dX10_readsRepeat_40 kw_1798 rfl (by decide) rfl (by omega) (by decide) (Nat.le_of_ble_eq_true rfl) hQ ?_ rfl
        rintro o S24 ⟨rfl, hQ⟩
        show ev_E g m_X10_readsRepeat (D + 1) 0 43 [some (ev_o 10 a), some (ev_i x0), some (ev_i x1)] [] S24 Q
        refine ev_aload_n (ev_o 10 a) dX10_readsRepeat_43 rfl rfl ?_
        refine ev_iload_n (x1) dX10_readsRepeat_44 rfl ?_
        refine ev_iconst (1) dX10_readsRepeat_45 rfl ?_
        refine ev_iadd dX10_readsRepeat_46 ?_
        refine ev_cV mv_X10_readsCommands D 0 10 [ev_i (x1 + 1)] [] dX10_readsRepeat_47 kw_1979 rfl (by decide) rfl (by omega) (by decide) (Nat.le_of_ble_eq_true rfl) hQ ?_ rfl
        rintro o S25 ⟨rfl, hQ⟩
        show ev_E g m_X10_readsRepeat (D + 1) 0 50 [some (ev_o 10 a), some (ev_i x0), some (ev_i x1)] [] S25 Q
        refine ev_aload_n (ev_o 10 a) dX10_readsRepeat_50 rfl rfl ?_
        refine ev_bipush (41) dX10_readsRepeat_51 (by decide) ?_
        refine ev_cV mv_X10_takesSign 4 0 10 [ev_i 41] [] dX10_readsRepeat_53 kw_1810 rfl (by decide) rfl (by omega) (by decide) (Nat.le_of_ble_eq_true rfl) hQ ?_ rfl
        rintro o S26 ⟨rfl, hQ⟩
        show ev_E g m_X10_readsRepeat (D + 1) 0 56 [some (ev_o 10 a), some (ev_i x0), some (ev_i x1)] [] S26 Q
        refine ev_aload_n (ev_o 10 a) dX10_readsRepeat_56 rfl rfl ?_
        refine gf_10_20 dX10_readsRepeat_57 kw_1873 ?_
        refine ev_bipush (6) dX10_readsRepeat_60 (by decide) ?_
        refine ev_iload_n (x0) dX10_readsRepeat_62 rfl ?_
        refine ev_imul dX10_readsRepeat_63 ?_
        refine ev_iconst (1) dX10_readsRepeat_64 rfl ?_
        refine ev_iadd dX10_readsRepeat_65 ?_
        refine ev_aload_n (ev_o 10 a) dX10_readsRepeat_66 rfl rfl ?_
        refine gf_10_21 dX10_readsRepeat_67 kw_1874 ?_
        obtain ⟨h6, hQ⟩ := hQ
        refine ev_iastore dX10_readsRepeat_70 h6 ?_
        obtain ⟨S27, hS27⟩ : ∃ z, z = (ev_up S26 (a + 9) ((6 * x0) + 1).toNatClampNeg (S26.1 a 21)) := ⟨_, rfl⟩
        refine ev_E.goal (pc' := 71) (L' := [some (ev_o 10 a), some (ev_i x0), some (ev_i x1)]) (K' := []) (S' := S27) ?_ rfl rfl rfl hS27
        replace hQ := hQ S27 hS27
        exact ev_return dX10_readsRepeat_71 rfl hQ
    · rw [if_neg c4]
      rw [if_neg c4] at hQ
      refine ev_if_eq 39 dX10_readsRepeat_20 (by decide) (fun _ => ?_) (fun h9 => absurd (by decide : ((0 : Int32) = 0)) h9)
      refine ev_aload_n (ev_o 10 a) dX10_readsRepeat_39 rfl rfl ?_
      refine ev_cV mv_X10_passes 3 0 10 [] [] dX10_readsRepeat_40 kw_1798 rfl (by decide) rfl (by omega) (by decide) (Nat.le_of_ble_eq_true rfl) hQ ?_ rfl
      rintro o S28 ⟨rfl, hQ⟩
      show ev_E g m_X10_readsRepeat (D + 1) 0 43 [some (ev_o 10 a), some (ev_i x0), some (ev_i x1)] [] S28 Q
      refine ev_aload_n (ev_o 10 a) dX10_readsRepeat_43 rfl rfl ?_
      refine ev_iload_n (x1) dX10_readsRepeat_44 rfl ?_
      refine ev_iconst (1) dX10_readsRepeat_45 rfl ?_
      refine ev_iadd dX10_readsRepeat_46 ?_
      refine ev_cV mv_X10_readsCommands D 0 10 [ev_i (x1 + 1)] [] dX10_readsRepeat_47 kw_1979 rfl (by decide) rfl (by omega) (by decide) (Nat.le_of_ble_eq_true rfl) hQ ?_ rfl
      rintro o S29 ⟨rfl, hQ⟩
      show ev_E g m_X10_readsRepeat (D + 1) 0 50 [some (ev_o 10 a), some (ev_i x0), some (ev_i x1)] [] S29 Q
      refine ev_aload_n (ev_o 10 a) dX10_readsRepeat_50 rfl rfl ?_
      refine ev_bipush (41) dX10_readsRepeat_51 (by decide) ?_
      refine ev_cV mv_X10_takesSign 4 0 10 [ev_i 41] [] dX10_readsRepeat_53 kw_1810 rfl (by decide) rfl (by omega) (by decide) (Nat.le_of_ble_eq_true rfl) hQ ?_ rfl
      rintro o S30 ⟨rfl, hQ⟩
      show ev_E g m_X10_readsRepeat (D + 1) 0 56 [some (ev_o 10 a), some (ev_i x0), some (ev_i x1)] [] S30 Q
      refine ev_aload_n (ev_o 10 a) dX10_readsRepeat_56 rfl rfl ?_
      refine gf_10_20 dX10_readsRepeat_57 kw_1873 ?_
      refine ev_bipush (6) dX10_readsRepeat_60 (by decide) ?_
      refine ev_iload_n (x0) dX10_readsRepeat_62 rfl ?_
      refine ev_imul dX10_readsRepeat_63 ?_
      refine ev_iconst (1) dX10_readsRepeat_64 rfl ?_
      refine ev_iadd dX10_readsRepeat_65 ?_
      refine ev_aload_n (ev_o 10 a) dX10_readsRepeat_66 rfl rfl ?_
      refine gf_10_21 dX10_readsRepeat_67 kw_1874 ?_
      obtain ⟨h7, hQ⟩ := hQ
      refine ev_iastore dX10_readsRepeat_70 h7 ?_
      obtain ⟨S31, hS31⟩ : ∃ z, z = (ev_up S30 (a + 9) ((6 * x0) + 1).toNatClampNeg (S30.1 a 21)) := ⟨_, rfl⟩
      refine ev_E.goal (pc' := 71) (L' := [some (ev_o 10 a), some (ev_i x0), some (ev_i x1)]) (K' := []) (S' := S31) ?_ rfl rfl rfl hS31
      replace hQ := hQ S31 hS31
      exact ev_return dX10_readsRepeat_71 rfl hQ
set_option maxHeartbeats 4000000 in
set_option maxRecDepth 100000 in
theorem sg_X10_keeps_0 {g : ev_G} {S : ev_S} {Q : ev_O → ev_S → Prop} (a : Nat) (hQ : if (S.1 a 6) = 8 then (
    ev_E g m_X10_keeps 1 0 11 [some (ev_o 10 a), some (ev_i 0)] [] S Q)
  else (
    ev_E g m_X10_keeps 1 0 52 [some (ev_o 10 a), some (ev_i 0)] [] S Q)) : ev_Cv g m_X10_keeps 1 0 [ev_o 10 a] S Q := by
  refine ev_enter (by decide) rfl rfl (Nat.le_of_ble_eq_true rfl) ?_
  show ev_E g m_X10_keeps 1 0 0 [some (ev_o 10 a), none] [] S Q
  refine ev_aload_n (ev_o 10 a) dX10_keeps_0 rfl rfl ?_
  refine gf_10_6 dX10_keeps_1 kw_1859 ?_
  refine ev_bipush (8) dX10_keeps_4 (by decide) ?_
  refine ev_icmp_ne 50 dX10_keeps_6 (by decide) (fun c1 => ?_) (fun c1 => ?_)
  · rw [if_neg c1] at hQ
    refine ev_iconst (0) dX10_keeps_50 rfl ?_
    refine ev_istore_n dX10_keeps_51 (Nat.le_of_ble_eq_true rfl) (ev_hw rfl) ?_
    show ev_E g m_X10_keeps 1 0 52 [some (ev_o 10 a), some (ev_i 0)] [] S Q
    exact hQ
  · rw [if_pos c1] at hQ
    refine ev_iconst (0) dX10_keeps_9 rfl ?_
    refine ev_istore_n dX10_keeps_10 (Nat.le_of_ble_eq_true rfl) (ev_hw rfl) ?_
    show ev_E g m_X10_keeps 1 0 11 [some (ev_o 10 a), some (ev_i 0)] [] S Q
    exact hQ
set_option maxHeartbeats 4000000 in
set_option maxRecDepth 100000 in
theorem sg_X10_keeps_52 {g : ev_G} {S : ev_S} {Q : ev_O → ev_S → Prop} (a : Nat) (u1 : Int32) (hQ : if 2091 ≤ u1 then (
    ∀ S1 : ev_S, S1 = (ev_up S a 6 ((S.1 a 6) + 1)) → (
      Q (.inl none) S1))
  else (
    (vp_in u1 2091) ∧ (
      (vp_in ((2091 * (S.1 a 6)) + u1) 16728) ∧ (
        ∀ S2 : ev_S, S2 = (ev_up S (a + 4) ((2091 * (S.1 a 6)) + u1).toNatClampNeg (S.1 (a + 1) u1.toNatClampNeg)) → (
          ev_E g m_X10_keeps 1 0 52 [some (ev_o 10 a), some (ev_i (u1 + 1))] [] S2 Q))))) : ev_E g m_X10_keeps 1 0 52 [some (ev_o 10 a), some (ev_i u1)] [] S Q := by
  refine ev_iload_n (u1) dX10_keeps_52 rfl ?_
  refine ev_sipush (2091) dX10_keeps_53 (by decide) ?_
  refine ev_icmp_ge 86 dX10_keeps_56 (by decide) (fun c1 => ?_) (fun c1 => ?_)
  · rw [if_pos c1] at hQ
    refine ev_aload_n (ev_o 10 a) dX10_keeps_86 rfl rfl ?_
    refine ev_dup dX10_keeps_87 rfl ?_
    refine gf_10_6 dX10_keeps_88 kw_1859 ?_
    refine ev_iconst (1) dX10_keeps_91 rfl ?_
    refine ev_iadd dX10_keeps_92 ?_
    refine pf_10_6 dX10_keeps_93 kw_1859 ?_
    obtain ⟨S1, hS1⟩ : ∃ z, z = (ev_up S a 6 ((S.1 a 6) + 1)) := ⟨_, rfl⟩
    refine ev_E.goal (pc' := 96) (L' := [some (ev_o 10 a), some (ev_i u1)]) (K' := []) (S' := S1) ?_ rfl rfl rfl hS1
    replace hQ := hQ S1 hS1
    exact ev_return dX10_keeps_96 rfl hQ
  · rw [if_neg c1] at hQ
    refine ev_aload_n (ev_o 10 a) dX10_keeps_59 rfl rfl ?_
    refine gf_10_3 dX10_keeps_60 kw_1856 ?_
    refine ev_sipush (2091) dX10_keeps_63 (by decide) ?_
    refine ev_aload_n (ev_o 10 a) dX10_keeps_66 rfl rfl ?_
    refine gf_10_6 dX10_keeps_67 kw_1859 ?_
    refine ev_imul dX10_keeps_70 ?_
    refine ev_iload_n (u1) dX10_keeps_71 rfl ?_
    refine ev_iadd dX10_keeps_72 ?_
    refine ev_aload_n (ev_o 10 a) dX10_keeps_73 rfl rfl ?_
    refine gf_10_0 dX10_keeps_74 kw_1853 ?_
    refine ev_iload_n (u1) dX10_keeps_77 rfl ?_
    obtain ⟨h1, hQ⟩ := hQ
    refine ev_iaload dX10_keeps_78 h1 ?_
    obtain ⟨h2, hQ⟩ := hQ
    refine ev_iastore dX10_keeps_79 h2 ?_
    obtain ⟨S2, hS2⟩ : ∃ z, z = (ev_up S (a + 4) ((2091 * (S.1 a 6)) + u1).toNatClampNeg (S.1 (a + 1) u1.toNatClampNeg)) := ⟨_, rfl⟩
    refine ev_E.goal (pc' := 80) (L' := [some (ev_o 10 a), some (ev_i u1)]) (K' := []) (S' := S2) ?_ rfl rfl rfl hS2
    replace hQ := hQ S2 hS2
    refine ev_iinc u1 (1) dX10_keeps_80 rfl (by decide) (ev_hw rfl) ?_
    show ev_E g m_X10_keeps 1 0 83 [some (ev_o 10 a), some (ev_i (u1 + 1))] [] S2 Q
    refine ev_goto 52 dX10_keeps_83 (by decide) ?_
    exact hQ
set_option maxHeartbeats 4000000 in
set_option maxRecDepth 100000 in
theorem sg_X10_keeps_11 {g : ev_G} {S : ev_S} {Q : ev_O → ev_S → Prop} (a : Nat) (u1 : Int32) (hQ : if 14637 ≤ u1 then (
    ∀ S1 : ev_S, S1 = (ev_up S a 6 ((S.1 a 6) - 1)) → (
      ev_E g m_X10_keeps 1 0 52 [some (ev_o 10 a), some (ev_i 0)] [] S1 Q))
  else (
    (vp_in (u1 + 2091) 16728) ∧ (
      (vp_in u1 16728) ∧ (
        ∀ S2 : ev_S, S2 = (ev_up S (a + 4) u1.toNatClampNeg (S.1 (a + 4) (u1 + 2091).toNatClampNeg)) → (
          ev_E g m_X10_keeps 1 0 11 [some (ev_o 10 a), some (ev_i (u1 + 1))] [] S2 Q))))) : ev_E g m_X10_keeps 1 0 11 [some (ev_o 10 a), some (ev_i u1)] [] S Q := by
  refine ev_iload_n (u1) dX10_keeps_11 rfl ?_
  refine ev_sipush (14637) dX10_keeps_12 (by decide) ?_
  refine ev_icmp_ge 40 dX10_keeps_15 (by decide) (fun c1 => ?_) (fun c1 => ?_)
  · rw [if_pos c1] at hQ
    refine ev_aload_n (ev_o 10 a) dX10_keeps_40 rfl rfl ?_
    refine ev_dup dX10_keeps_41 rfl ?_
    refine gf_10_6 dX10_keeps_42 kw_1859 ?_
    refine ev_iconst (1) dX10_keeps_45 rfl ?_
    refine ev_isub dX10_keeps_46 ?_
    refine pf_10_6 dX10_keeps_47 kw_1859 ?_
    obtain ⟨S1, hS1⟩ : ∃ z, z = (ev_up S a 6 ((S.1 a 6) - 1)) := ⟨_, rfl⟩
    refine ev_E.goal (pc' := 50) (L' := [some (ev_o 10 a), some (ev_i u1)]) (K' := []) (S' := S1) ?_ rfl rfl rfl hS1
    replace hQ := hQ S1 hS1
    refine ev_iconst (0) dX10_keeps_50 rfl ?_
    refine ev_istore_n dX10_keeps_51 (Nat.le_of_ble_eq_true rfl) (ev_hw rfl) ?_
    show ev_E g m_X10_keeps 1 0 52 [some (ev_o 10 a), some (ev_i 0)] [] S1 Q
    exact hQ
  · rw [if_neg c1] at hQ
    refine ev_aload_n (ev_o 10 a) dX10_keeps_18 rfl rfl ?_
    refine gf_10_3 dX10_keeps_19 kw_1856 ?_
    refine ev_iload_n (u1) dX10_keeps_22 rfl ?_
    refine ev_aload_n (ev_o 10 a) dX10_keeps_23 rfl rfl ?_
    refine gf_10_3 dX10_keeps_24 kw_1856 ?_
    refine ev_iload_n (u1) dX10_keeps_27 rfl ?_
    refine ev_sipush (2091) dX10_keeps_28 (by decide) ?_
    refine ev_iadd dX10_keeps_31 ?_
    obtain ⟨h1, hQ⟩ := hQ
    refine ev_iaload dX10_keeps_32 h1 ?_
    obtain ⟨h2, hQ⟩ := hQ
    refine ev_iastore dX10_keeps_33 h2 ?_
    obtain ⟨S2, hS2⟩ : ∃ z, z = (ev_up S (a + 4) u1.toNatClampNeg (S.1 (a + 4) (u1 + 2091).toNatClampNeg)) := ⟨_, rfl⟩
    refine ev_E.goal (pc' := 34) (L' := [some (ev_o 10 a), some (ev_i u1)]) (K' := []) (S' := S2) ?_ rfl rfl rfl hS2
    replace hQ := hQ S2 hS2
    refine ev_iinc u1 (1) dX10_keeps_34 rfl (by decide) (ev_hw rfl) ?_
    show ev_E g m_X10_keeps 1 0 37 [some (ev_o 10 a), some (ev_i (u1 + 1))] [] S2 Q
    refine ev_goto 11 dX10_keeps_37 (by decide) ?_
    exact hQ
set_option maxHeartbeats 4000000 in
set_option maxRecDepth 100000 in
theorem sg_X10_changes_0 {g : ev_G} {S : ev_S} {Q : ev_O → ev_S → Prop} (a : Nat) (hQ : if (S.1 a 23) = 0 then (
    ev_Cv g m_X10_keeps 1 0 [ev_o 10 a] S (fun o S1 => o = .inl none ∧ (
      Q (.inl none) S1)))
  else (
    Q (.inl none) S)) : ev_Cv g m_X10_changes 2 0 [ev_o 10 a] S Q := by
  refine ev_enter (by decide) rfl rfl (Nat.le_of_ble_eq_true rfl) ?_
  show ev_E g m_X10_changes 2 0 0 [some (ev_o 10 a)] [] S Q
  refine ev_aload_n (ev_o 10 a) dX10_changes_0 rfl rfl ?_
  refine gf_10_23 dX10_changes_1 kw_1876 ?_
  refine ev_if_ne 11 dX10_changes_4 (by decide) (fun c1 => ?_) (fun c1 => ?_)
  · rw [if_neg c1] at hQ
    exact ev_return dX10_changes_11 rfl hQ
  · rw [if_pos c1] at hQ
    refine ev_aload_n (ev_o 10 a) dX10_changes_7 rfl rfl ?_
    refine ev_cV mv_X10_keeps 1 0 10 [] [] dX10_changes_8 kw_2009 rfl (by decide) rfl (by decide) (by decide) (Nat.le_of_ble_eq_true rfl) hQ ?_ rfl
    rintro o S1 ⟨rfl, hQ⟩
    show ev_E g m_X10_changes 2 0 11 [some (ev_o 10 a)] [] S1 Q
    exact ev_return dX10_changes_11 rfl hQ
set_option maxHeartbeats 4000000 in
set_option maxRecDepth 100000 in
theorem sg_X10_moving_0 {g : ev_G} {S : ev_S} {Q : ev_O → ev_S → Prop} (a : Nat) (x0 : Int32) (x1 : Int32) (x2 : Int32) (x3 : Int32) (hQ : if (t_X10_in x0 0 1) = true then (
    if (t_X10_in x1 0 (((S.1 (a + 1) 0) * (S.1 (a + 1) 0)) - 1)) = true then (
      if (t_X10_in x2 0 (((S.1 (a + 1) 0) * (S.1 (a + 1) 0)) - 1)) = true then (
        if (t_X10_in x3 0 ((S.1 (a + 1) 3) - 1)) = true then (
          if (S.1 a 7) = 0 then (
            ev_Cv g m_X10_turnOf 4 0 [ev_o 10 a, ev_i x0] S (fun o S1 => ∃ v1_ : Bool, o = .inl (some (ev_i (if v1_ = true then 1 else 0))) ∧ (
              if v1_ = true then (
                if 80 ≤ (S1.1 (a + 1) 4) then (
                  if (S1.1 a 7) = 0 then (
                    ∀ S2 : ev_S, S2 = (ev_up S1 a 7 2) → (
                      Q (.inl (some (ev_i 0))) S2))
                  else (
                    Q (.inl (some (ev_i 0))) S1))
                else (
                  if (S1.1 a 7) = 0 then (
                    ev_Cv g m_X10_moves 3 0 [ev_o 10 a, ev_i x0, ev_i x0, ev_i x1, ev_i x2] S1 (fun o S3 => ∃ v2_ : Bool, o = .inl (some (ev_i (if v2_ = true then 1 else 0))) ∧ (
                      if v2_ = true then (
                        if (S3.1 a 7) = 0 then (
                          ev_Cv g m_X10_changes 2 0 [ev_o 10 a] S3 (fun o S4 => o = .inl none ∧ (
                            (vp_in ((12 + (7 * x0)) + 0) 2091) ∧ (
                              ev_Cv g m_X10_applies 3 0 [ev_o 10 a, ev_i x0, ev_i x1, ev_i x2] S4 (fun o S5 => o = .inl none ∧ (
                                ev_Cv g m_X10_posts 2 0 [ev_o 10 a, ev_i x0, ev_i x3, ev_i 0, ev_i ((S4.1 (a + 1) ((12 + (7 * x0)) + 0).toNatClampNeg) + 1), ev_i x1, ev_i x2] S5 (fun o S6 => ∃ v5_ : Int32, o = .inl (some (ev_i v5_)) ∧ (
                                  ev_Cv g m_X10_appliesAll 4 0 [ev_o 10 a, ev_i x0] S6 (fun o S7 => o = .inl none ∧ (
                                    Q (.inl (some (ev_i ((S4.1 (a + 1) ((12 + (7 * x0)) + 0).toNatClampNeg) + 1)))) S7))))))))))
                        else (
                          Q (.inl (some (ev_i 0))) S3))
                      else (
                        if (S3.1 a 7) = 0 then (
                          ∀ S8 : ev_S, S8 = (ev_up S3 a 7 3) → (
                            Q (.inl (some (ev_i 0))) S8))
                        else (
                          Q (.inl (some (ev_i 0))) S3)))))
                  else (
                    Q (.inl (some (ev_i 0))) S1)))
              else (
                if (S1.1 a 7) = 0 then (
                  ∀ S9 : ev_S, S9 = (ev_up S1 a 7 2) → (
                    Q (.inl (some (ev_i 0))) S9))
                else (
                  Q (.inl (some (ev_i 0))) S1)))))
          else (
            Q (.inl (some (ev_i 0))) S))
        else (
          if (S.1 a 7) = 0 then (
            ∀ S10 : ev_S, S10 = (ev_up S a 7 1) → (
              Q (.inl (some (ev_i 0))) S10))
          else (
            Q (.inl (some (ev_i 0))) S)))
      else (
        if (S.1 a 7) = 0 then (
          ∀ S11 : ev_S, S11 = (ev_up S a 7 1) → (
            Q (.inl (some (ev_i 0))) S11))
        else (
          Q (.inl (some (ev_i 0))) S)))
    else (
      if (S.1 a 7) = 0 then (
        ∀ S12 : ev_S, S12 = (ev_up S a 7 1) → (
          Q (.inl (some (ev_i 0))) S12))
      else (
        Q (.inl (some (ev_i 0))) S)))
  else (
    if (S.1 a 7) = 0 then (
      ∀ S13 : ev_S, S13 = (ev_up S a 7 1) → (
        Q (.inl (some (ev_i 0))) S13))
    else (
      Q (.inl (some (ev_i 0))) S))) : ev_Cv g m_X10_moving 5 0 [ev_o 10 a, ev_i x0, ev_i x1, ev_i x2, ev_i x3] S Q := by
  refine ev_enter (by decide) rfl rfl (Nat.le_of_ble_eq_true rfl) ?_
  show ev_E g m_X10_moving 5 0 0 [some (ev_o 10 a), some (ev_i x0), some (ev_i x1), some (ev_i x2), some (ev_i x3), none, none] [] S Q
  refine ev_aload_n (ev_o 10 a) dX10_moving_0 rfl rfl ?_
  refine ev_iload_n (x0) dX10_moving_1 rfl ?_
  refine ev_fS ms_X10_isPlayer 2 [ev_i x0] [ev_o 10 a] dX10_moving_2 kw_2029 rfl (by decide) (Nat.le_of_ble_eq_true rfl) (sp_X10_isPlayer x0) ?_ rfl
  by_cases c1 : (t_X10_in x0 0 1) = true
  · rw [if_pos c1]
    rw [if_pos c1] at hQ
    refine ev_if_eq 37 dX10_moving_5 (by decide) (fun h9 => absurd h9 (by decide : ¬ ((1 : Int32) = 0))) (fun _ => ?_)
    refine ev_aload_n (ev_o 10 a) dX10_moving_8 rfl rfl ?_
    refine ev_iload_n (x1) dX10_moving_9 rfl ?_
    refine ev_fV mv_X10_isSquare 2 10 [ev_i x1] [ev_o 10 a] dX10_moving_10 kw_2032 rfl (by decide) rfl (by decide) (Nat.le_of_ble_eq_true rfl) (sp_X10_isSquare a x1) ?_ rfl
    by_cases c2 : (t_X10_in x1 0 (((S.1 (a + 1) 0) * (S.1 (a + 1) 0)) - 1)) = true
    · rw [if_pos c2]
      rw [if_pos c2] at hQ
      refine ev_if_eq 37 dX10_moving_13 (by decide) (fun h9 => absurd h9 (by decide : ¬ ((1 : Int32) = 0))) (fun _ => ?_)
      refine ev_aload_n (ev_o 10 a) dX10_moving_16 rfl rfl ?_
      refine ev_iload_n (x2) dX10_moving_17 rfl ?_
      refine ev_fV mv_X10_isSquare 2 10 [ev_i x2] [ev_o 10 a] dX10_moving_18 kw_2032 rfl (by decide) rfl (by decide) (Nat.le_of_ble_eq_true rfl) (sp_X10_isSquare a x2) ?_ rfl
      by_cases c3 : (t_X10_in x2 0 (((S.1 (a + 1) 0) * (S.1 (a + 1) 0)) - 1)) = true
      · rw [if_pos c3]
        rw [if_pos c3] at hQ
        refine ev_if_eq 37 dX10_moving_21 (by decide) (fun h9 => absurd h9 (by decide : ¬ ((1 : Int32) = 0))) (fun _ => ?_)
        refine ev_aload_n (ev_o 10 a) dX10_moving_24 rfl rfl ?_
        refine ev_iload (x3) dX10_moving_25 rfl ?_
        refine ev_fV mv_X10_isPass 2 10 [ev_i x3] [ev_o 10 a] dX10_moving_27 kw_2036 rfl (by decide) rfl (by decide) (Nat.le_of_ble_eq_true rfl) (sp_X10_isPass a x3) ?_ rfl
        by_cases c4 : (t_X10_in x3 0 ((S.1 (a + 1) 3) - 1)) = true
        · rw [if_pos c4]
          rw [if_pos c4] at hQ
          refine ev_if_eq 37 dX10_moving_30 (by decide) (fun h9 => absurd h9 (by decide : ¬ ((1 : Int32) = 0))) (fun _ => ?_)
          refine ev_iconst (1) dX10_moving_33 rfl ?_
          refine ev_goto 38 dX10_moving_34 (by decide) ?_
          refine ev_iconst (1) dX10_moving_38 rfl ?_
          refine ev_cV mv_X10_right 1 0 10 [ev_i 1, ev_i 1] [] dX10_moving_39 kw_1951 rfl (by decide) rfl (by decide) (by decide) (Nat.le_of_ble_eq_true rfl) (Q' := fun o z => ev_After g m_X10_moving 5 (0 - 0) 39 [some (ev_o 10 a), some (ev_i x0), some (ev_i x1), some (ev_i x2), some (ev_i x3), none, none] [] z Q o) (sg_X10_right_0 a 1 1 ?_) (fun o z h => h) rfl
          by_cases c5 : (S.1 a 7) = 0
          · rw [if_pos c5]
            rw [if_pos c5] at hQ
            rw [if_neg (by decide : ¬ ((1 : Int32) = 0))]
            show ev_E g m_X10_moving 5 0 42 [some (ev_o 10 a), some (ev_i x0), some (ev_i x1), some (ev_i x2), some (ev_i x3), none, none] [ev_i 1] S Q
            refine ev_if_eq 93 dX10_moving_42 (by decide) (fun h9 => absurd h9 (by decide : ¬ ((1 : Int32) = 0))) (fun _ => ?_)
            refine ev_aload_n (ev_o 10 a) dX10_moving_45 rfl rfl ?_
            refine ev_aload_n (ev_o 10 a) dX10_moving_46 rfl rfl ?_
            refine ev_iload_n (x0) dX10_moving_47 rfl ?_
            refine ev_cV mv_X10_turnOf 4 0 10 [ev_i x0] [ev_o 10 a] dX10_moving_48 kw_2040 rfl (by decide) rfl (by decide) (by decide) (Nat.le_of_ble_eq_true rfl) hQ ?_ rfl
            rintro o S1 ⟨v1_, rfl, hQ⟩
            show ev_E g m_X10_moving 5 0 51 [some (ev_o 10 a), some (ev_i x0), some (ev_i x1), some (ev_i x2), some (ev_i x3), none, none] [ev_i (if v1_ = true then 1 else 0), ev_o 10 a] S1 Q
            by_cases c6 : v1_ = true
            · rw [if_pos c6]
              rw [if_pos c6] at hQ
              refine ev_if_eq 69 dX10_moving_51 (by decide) (fun h9 => absurd h9 (by decide : ¬ ((1 : Int32) = 0))) (fun _ => ?_)
              refine ev_aload_n (ev_o 10 a) dX10_moving_54 rfl rfl ?_
              refine gf_10_0 dX10_moving_55 kw_1853 ?_
              refine ev_iconst (4) dX10_moving_58 rfl ?_
              refine ev_iaload dX10_moving_59 (j_vin (by decide)) ?_
              refine ev_bipush (80) dX10_moving_60 (by decide) ?_
              refine ev_icmp_ge 69 dX10_moving_62 (by decide) (fun c7 => ?_) (fun c7 => ?_)
              · rw [if_pos c7] at hQ
                refine ev_iconst (0) dX10_moving_69 rfl ?_
                refine ev_iconst (2) dX10_moving_70 rfl ?_
                refine ev_cV mv_X10_right 1 0 10 [ev_i 0, ev_i 2] [] dX10_moving_71 kw_1951 rfl (by decide) rfl (by decide) (by decide) (Nat.le_of_ble_eq_true rfl) (Q' := fun o z => ev_After g m_X10_moving 5 (0 - 0) 71 [some (ev_o 10 a), some (ev_i x0), some (ev_i x1), some (ev_i x2), some (ev_i x3), none, none] [] z Q o) (sg_X10_right_0 a 0 2 ?_) (fun o z h => h) rfl
                by_cases c8 : (S1.1 a 7) = 0
                · rw [if_pos c8]
                  rw [if_pos c8] at hQ
                  rw [if_pos (by decide : ((0 : Int32) = 0))]
                  intro S2 hS2
                  replace hQ := hQ S2 hS2
                  rw [if_neg (by decide : ¬ ((2 : Int32) = 0))]
                  show ev_E g m_X10_moving 5 0 74 [some (ev_o 10 a), some (ev_i x0), some (ev_i x1), some (ev_i x2), some (ev_i x3), none, none] [ev_i 0] S2 Q
                  refine ev_if_eq 93 dX10_moving_74 (by decide) (fun _ => ?_) (fun h9 => absurd (by decide : ((0 : Int32) = 0)) h9)
                  refine ev_iconst (0) dX10_moving_93 rfl ?_
                  exact ev_ireturn .int dX10_moving_94 rfl rfl hQ
                · rw [if_neg c8]
                  rw [if_neg c8] at hQ
                  show ev_E g m_X10_moving 5 0 74 [some (ev_o 10 a), some (ev_i x0), some (ev_i x1), some (ev_i x2), some (ev_i x3), none, none] [ev_i 0] S1 Q
                  refine ev_if_eq 93 dX10_moving_74 (by decide) (fun _ => ?_) (fun h9 => absurd (by decide : ((0 : Int32) = 0)) h9)
                  refine ev_iconst (0) dX10_moving_93 rfl ?_
                  exact ev_ireturn .int dX10_moving_94 rfl rfl hQ
              · rw [if_neg c7] at hQ
                refine ev_iconst (1) dX10_moving_65 rfl ?_
                refine ev_goto 70 dX10_moving_66 (by decide) ?_
                refine ev_iconst (2) dX10_moving_70 rfl ?_
                refine ev_cV mv_X10_right 1 0 10 [ev_i 1, ev_i 2] [] dX10_moving_71 kw_1951 rfl (by decide) rfl (by decide) (by decide) (Nat.le_of_ble_eq_true rfl) (Q' := fun o z => ev_After g m_X10_moving 5 (0 - 0) 71 [some (ev_o 10 a), some (ev_i x0), some (ev_i x1), some (ev_i x2), some (ev_i x3), none, none] [] z Q o) (sg_X10_right_0 a 1 2 ?_) (fun o z h => h) rfl
                by_cases c9 : (S1.1 a 7) = 0
                · rw [if_pos c9]
                  rw [if_pos c9] at hQ
                  rw [if_neg (by decide : ¬ ((1 : Int32) = 0))]
                  show ev_E g m_X10_moving 5 0 74 [some (ev_o 10 a), some (ev_i x0), some (ev_i x1), some (ev_i x2), some (ev_i x3), none, none] [ev_i 1] S1 Q
                  refine ev_if_eq 93 dX10_moving_74 (by decide) (fun h9 => absurd h9 (by decide : ¬ ((1 : Int32) = 0))) (fun _ => ?_)
                  refine ev_aload_n (ev_o 10 a) dX10_moving_77 rfl rfl ?_
                  refine ev_aload_n (ev_o 10 a) dX10_moving_78 rfl rfl ?_
                  refine ev_iload_n (x0) dX10_moving_79 rfl ?_
                  refine ev_iload_n (x0) dX10_moving_80 rfl ?_
                  refine ev_iload_n (x1) dX10_moving_81 rfl ?_
                  refine ev_iload_n (x2) dX10_moving_82 rfl ?_
                  refine ev_cV mv_X10_moves 3 0 10 [ev_i x0, ev_i x0, ev_i x1, ev_i x2] [ev_o 10 a] dX10_moving_83 kw_2059 rfl (by decide) rfl (by decide) (by decide) (Nat.le_of_ble_eq_true rfl) hQ ?_ rfl
                  rintro o S3 ⟨v2_, rfl, hQ⟩
                  show ev_E g m_X10_moving 5 0 86 [some (ev_o 10 a), some (ev_i x0), some (ev_i x1), some (ev_i x2), some (ev_i x3), none, none] [ev_i (if v2_ = true then 1 else 0), ev_o 10 a] S3 Q
                  by_cases c10 : v2_ = true
                  · rw [if_pos c10]
                    rw [if_pos c10] at hQ
                    refine ev_iconst (3) dX10_moving_86 rfl ?_
                    refine ev_cV mv_X10_right 1 0 10 [ev_i 1, ev_i 3] [] dX10_moving_87 kw_1951 rfl (by decide) rfl (by decide) (by decide) (Nat.le_of_ble_eq_true rfl) (Q' := fun o z => ev_After g m_X10_moving 5 (0 - 0) 87 [some (ev_o 10 a), some (ev_i x0), some (ev_i x1), some (ev_i x2), some (ev_i x3), none, none] [] z Q o) (sg_X10_right_0 a 1 3 ?_) (fun o z h => h) rfl
                    by_cases c11 : (S3.1 a 7) = 0
                    · rw [if_pos c11]
                      rw [if_pos c11] at hQ
                      rw [if_neg (by decide : ¬ ((1 : Int32) = 0))]
                      show ev_E g m_X10_moving 5 0 90 [some (ev_o 10 a), some (ev_i x0), some (ev_i x1), some (ev_i x2), some (ev_i x3), none, none] [ev_i 1] S3 Q
                      refine ev_if_ne 95 dX10_moving_90 (by decide) (fun _ => ?_) (fun h9 => absurd h9 (by decide : ¬ ((1 : Int32) = 0)))
                      refine ev_aload_n (ev_o 10 a) dX10_moving_95 rfl rfl ?_
                      refine ev_cV mv_X10_changes 2 0 10 [] [] dX10_moving_96 kw_2068 rfl (by decide) rfl (by decide) (by decide) (Nat.le_of_ble_eq_true rfl) hQ ?_ rfl
                      rintro o S4 ⟨rfl, hQ⟩
                      show ev_E g m_X10_moving 5 0 99 [some (ev_o 10 a), some (ev_i x0), some (ev_i x1), some (ev_i x2), some (ev_i x3), none, none] [] S4 Q
                      refine ev_aload_n (ev_o 10 a) dX10_moving_99 rfl rfl ?_
                      refine ev_iload_n (x0) dX10_moving_100 rfl ?_
                      obtain ⟨h1, hQ⟩ := hQ
                      refine ev_fV mv_X10_nextNumber 2 10 [ev_i x0] [] dX10_moving_101 kw_2052 rfl (by decide) rfl (by decide) (Nat.le_of_ble_eq_true rfl) (sp_X10_nextNumber a x0 h1) ?_ rfl
                      refine ev_istore dX10_moving_104 (Nat.le_of_ble_eq_true rfl) (ev_hw rfl) ?_
                      show ev_E g m_X10_moving 5 0 106 [some (ev_o 10 a), some (ev_i x0), some (ev_i x1), some (ev_i x2), some (ev_i x3), some (ev_i ((S4.1 (a + 1) ((12 + (7 * x0)) + 0).toNatClampNeg) + 1)), none] [] S4 Q
                      refine ev_aload_n (ev_o 10 a) dX10_moving_106 rfl rfl ?_
                      refine ev_iload_n (x0) dX10_moving_107 rfl ?_
                      refine ev_iload_n (x1) dX10_moving_108 rfl ?_
                      refine ev_iload_n (x2) dX10_moving_109 rfl ?_
                      refine ev_cV mv_X10_applies 3 0 10 [ev_i x0, ev_i x1, ev_i x2] [] dX10_moving_110 kw_2072 rfl (by decide) rfl (by decide) (by decide) (Nat.le_of_ble_eq_true rfl) hQ ?_ rfl
                      rintro o S5 ⟨rfl, hQ⟩
                      show ev_E g m_X10_moving 5 0 113 [some (ev_o 10 a), some (ev_i x0), some (ev_i x1), some (ev_i x2), some (ev_i x3), some (ev_i ((S4.1 (a + 1) ((12 + (7 * x0)) + 0).toNatClampNeg) + 1)), none] [] S5 Q
                      refine ev_aload_n (ev_o 10 a) dX10_moving_113 rfl rfl ?_
                      refine ev_iload_n (x0) dX10_moving_114 rfl ?_
                      refine ev_iload (x3) dX10_moving_115 rfl ?_
                      refine ev_iconst (0) dX10_moving_117 rfl ?_
                      refine ev_iload (((S4.1 (a + 1) ((12 + (7 * x0)) + 0).toNatClampNeg) + 1)) dX10_moving_118 rfl ?_
                      refine ev_iload_n (x1) dX10_moving_120 rfl ?_
                      refine ev_iload_n (x2) dX10_moving_121 rfl ?_
                      refine ev_cV mv_X10_posts 2 0 10 [ev_i x0, ev_i x3, ev_i 0, ev_i ((S4.1 (a + 1) ((12 + (7 * x0)) + 0).toNatClampNeg) + 1), ev_i x1, ev_i x2] [] dX10_moving_122 kw_2081 rfl (by decide) rfl (by decide) (by decide) (Nat.le_of_ble_eq_true rfl) hQ ?_ rfl
                      rintro o S6 ⟨v5_, rfl, hQ⟩
                      show ev_E g m_X10_moving 5 0 125 [some (ev_o 10 a), some (ev_i x0), some (ev_i x1), some (ev_i x2), some (ev_i x3), some (ev_i ((S4.1 (a + 1) ((12 + (7 * x0)) + 0).toNatClampNeg) + 1)), none] [ev_i v5_] S6 Q
                      refine ev_istore dX10_moving_125 (Nat.le_of_ble_eq_true rfl) (ev_hw rfl) ?_
                      show ev_E g m_X10_moving 5 0 127 [some (ev_o 10 a), some (ev_i x0), some (ev_i x1), some (ev_i x2), some (ev_i x3), some (ev_i ((S4.1 (a + 1) ((12 + (7 * x0)) + 0).toNatClampNeg) + 1)), some (ev_i v5_)] [] S6 Q
                      refine ev_aload_n (ev_o 10 a) dX10_moving_127 rfl rfl ?_
                      refine ev_iload_n (x0) dX10_moving_128 rfl ?_
                      refine ev_cV mv_X10_appliesAll 4 0 10 [ev_i x0] [] dX10_moving_129 kw_2089 rfl (by decide) rfl (by decide) (by decide) (Nat.le_of_ble_eq_true rfl) hQ ?_ rfl
                      rintro o S7 ⟨rfl, hQ⟩
                      show ev_E g m_X10_moving 5 0 132 [some (ev_o 10 a), some (ev_i x0), some (ev_i x1), some (ev_i x2), some (ev_i x3), some (ev_i ((S4.1 (a + 1) ((12 + (7 * x0)) + 0).toNatClampNeg) + 1)), some (ev_i v5_)] [] S7 Q
                      refine ev_iload (((S4.1 (a + 1) ((12 + (7 * x0)) + 0).toNatClampNeg) + 1)) dX10_moving_132 rfl ?_
                      exact ev_ireturn .int dX10_moving_134 rfl rfl hQ
                    · rw [if_neg c11]
                      rw [if_neg c11] at hQ
                      show ev_E g m_X10_moving 5 0 90 [some (ev_o 10 a), some (ev_i x0), some (ev_i x1), some (ev_i x2), some (ev_i x3), none, none] [ev_i 0] S3 Q
                      refine ev_if_ne 95 dX10_moving_90 (by decide) (fun h9 => absurd (by decide : ((0 : Int32) = 0)) h9) (fun _ => ?_)
                      refine ev_iconst (0) dX10_moving_93 rfl ?_
                      exact ev_ireturn .int dX10_moving_94 rfl rfl hQ
                  · rw [if_neg c10]
                    rw [if_neg c10] at hQ
                    refine ev_iconst (3) dX10_moving_86 rfl ?_
                    refine ev_cV mv_X10_right 1 0 10 [ev_i 0, ev_i 3] [] dX10_moving_87 kw_1951 rfl (by decide) rfl (by decide) (by decide) (Nat.le_of_ble_eq_true rfl) (Q' := fun o z => ev_After g m_X10_moving 5 (0 - 0) 87 [some (ev_o 10 a), some (ev_i x0), some (ev_i x1), some (ev_i x2), some (ev_i x3), none, none] [] z Q o) (sg_X10_right_0 a 0 3 ?_) (fun o z h => h) rfl
                    by_cases c12 : (S3.1 a 7) = 0
                    · rw [if_pos c12]
                      rw [if_pos c12] at hQ
                      rw [if_pos (by decide : ((0 : Int32) = 0))]
                      intro S8 hS8
                      replace hQ := hQ S8 hS8
                      rw [if_neg (by decide : ¬ ((3 : Int32) = 0))]
                      show ev_E g m_X10_moving 5 0 90 [some (ev_o 10 a), some (ev_i x0), some (ev_i x1), some (ev_i x2), some (ev_i x3), none, none] [ev_i 0] S8 Q
                      refine ev_if_ne 95 dX10_moving_90 (by decide) (fun h9 => absurd (by decide : ((0 : Int32) = 0)) h9) (fun _ => ?_)
                      refine ev_iconst (0) dX10_moving_93 rfl ?_
                      exact ev_ireturn .int dX10_moving_94 rfl rfl hQ
                    · rw [if_neg c12]
                      rw [if_neg c12] at hQ
                      show ev_E g m_X10_moving 5 0 90 [some (ev_o 10 a), some (ev_i x0), some (ev_i x1), some (ev_i x2), some (ev_i x3), none, none] [ev_i 0] S3 Q
                      refine ev_if_ne 95 dX10_moving_90 (by decide) (fun h9 => absurd (by decide : ((0 : Int32) = 0)) h9) (fun _ => ?_)
                      refine ev_iconst (0) dX10_moving_93 rfl ?_
                      exact ev_ireturn .int dX10_moving_94 rfl rfl hQ
                · rw [if_neg c9]
                  rw [if_neg c9] at hQ
                  show ev_E g m_X10_moving 5 0 74 [some (ev_o 10 a), some (ev_i x0), some (ev_i x1), some (ev_i x2), some (ev_i x3), none, none] [ev_i 0] S1 Q
                  refine ev_if_eq 93 dX10_moving_74 (by decide) (fun _ => ?_) (fun h9 => absurd (by decide : ((0 : Int32) = 0)) h9)
                  refine ev_iconst (0) dX10_moving_93 rfl ?_
                  exact ev_ireturn .int dX10_moving_94 rfl rfl hQ
            · rw [if_neg c6]
              rw [if_neg c6] at hQ
              refine ev_if_eq 69 dX10_moving_51 (by decide) (fun _ => ?_) (fun h9 => absurd (by decide : ((0 : Int32) = 0)) h9)
              refine ev_iconst (0) dX10_moving_69 rfl ?_
              refine ev_iconst (2) dX10_moving_70 rfl ?_
              refine ev_cV mv_X10_right 1 0 10 [ev_i 0, ev_i 2] [] dX10_moving_71 kw_1951 rfl (by decide) rfl (by decide) (by decide) (Nat.le_of_ble_eq_true rfl) (Q' := fun o z => ev_After g m_X10_moving 5 (0 - 0) 71 [some (ev_o 10 a), some (ev_i x0), some (ev_i x1), some (ev_i x2), some (ev_i x3), none, none] [] z Q o) (sg_X10_right_0 a 0 2 ?_) (fun o z h => h) rfl
              by_cases c13 : (S1.1 a 7) = 0
              · rw [if_pos c13]
                rw [if_pos c13] at hQ
                rw [if_pos (by decide : ((0 : Int32) = 0))]
                intro S9 hS9
                replace hQ := hQ S9 hS9
                rw [if_neg (by decide : ¬ ((2 : Int32) = 0))]
                show ev_E g m_X10_moving 5 0 74 [some (ev_o 10 a), some (ev_i x0), some (ev_i x1), some (ev_i x2), some (ev_i x3), none, none] [ev_i 0] S9 Q
                refine ev_if_eq 93 dX10_moving_74 (by decide) (fun _ => ?_) (fun h9 => absurd (by decide : ((0 : Int32) = 0)) h9)
                refine ev_iconst (0) dX10_moving_93 rfl ?_
                exact ev_ireturn .int dX10_moving_94 rfl rfl hQ
              · rw [if_neg c13]
                rw [if_neg c13] at hQ
                show ev_E g m_X10_moving 5 0 74 [some (ev_o 10 a), some (ev_i x0), some (ev_i x1), some (ev_i x2), some (ev_i x3), none, none] [ev_i 0] S1 Q
                refine ev_if_eq 93 dX10_moving_74 (by decide) (fun _ => ?_) (fun h9 => absurd (by decide : ((0 : Int32) = 0)) h9)
                refine ev_iconst (0) dX10_moving_93 rfl ?_
                exact ev_ireturn .int dX10_moving_94 rfl rfl hQ
          · rw [if_neg c5]
            rw [if_neg c5] at hQ
            show ev_E g m_X10_moving 5 0 42 [some (ev_o 10 a), some (ev_i x0), some (ev_i x1), some (ev_i x2), some (ev_i x3), none, none] [ev_i 0] S Q
            refine ev_if_eq 93 dX10_moving_42 (by decide) (fun _ => ?_) (fun h9 => absurd (by decide : ((0 : Int32) = 0)) h9)
            refine ev_iconst (0) dX10_moving_93 rfl ?_
            exact ev_ireturn .int dX10_moving_94 rfl rfl hQ
        · rw [if_neg c4]
          rw [if_neg c4] at hQ
          refine ev_if_eq 37 dX10_moving_30 (by decide) (fun _ => ?_) (fun h9 => absurd (by decide : ((0 : Int32) = 0)) h9)
          refine ev_iconst (0) dX10_moving_37 rfl ?_
          refine ev_iconst (1) dX10_moving_38 rfl ?_
          refine ev_cV mv_X10_right 1 0 10 [ev_i 0, ev_i 1] [] dX10_moving_39 kw_1951 rfl (by decide) rfl (by decide) (by decide) (Nat.le_of_ble_eq_true rfl) (Q' := fun o z => ev_After g m_X10_moving 5 (0 - 0) 39 [some (ev_o 10 a), some (ev_i x0), some (ev_i x1), some (ev_i x2), some (ev_i x3), none, none] [] z Q o) (sg_X10_right_0 a 0 1 ?_) (fun o z h => h) rfl
          by_cases c14 : (S.1 a 7) = 0
          · rw [if_pos c14]
            rw [if_pos c14] at hQ
            rw [if_pos (by decide : ((0 : Int32) = 0))]
            intro S10 hS10
            replace hQ := hQ S10 hS10
            rw [if_neg (by decide : ¬ ((1 : Int32) = 0))]
            show ev_E g m_X10_moving 5 0 42 [some (ev_o 10 a), some (ev_i x0), some (ev_i x1), some (ev_i x2), some (ev_i x3), none, none] [ev_i 0] S10 Q
            refine ev_if_eq 93 dX10_moving_42 (by decide) (fun _ => ?_) (fun h9 => absurd (by decide : ((0 : Int32) = 0)) h9)
            refine ev_iconst (0) dX10_moving_93 rfl ?_
            exact ev_ireturn .int dX10_moving_94 rfl rfl hQ
          · rw [if_neg c14]
            rw [if_neg c14] at hQ
            show ev_E g m_X10_moving 5 0 42 [some (ev_o 10 a), some (ev_i x0), some (ev_i x1), some (ev_i x2), some (ev_i x3), none, none] [ev_i 0] S Q
            refine ev_if_eq 93 dX10_moving_42 (by decide) (fun _ => ?_) (fun h9 => absurd (by decide : ((0 : Int32) = 0)) h9)
            refine ev_iconst (0) dX10_moving_93 rfl ?_
            exact ev_ireturn .int dX10_moving_94 rfl rfl hQ
      · rw [if_neg c3]
        rw [if_neg c3] at hQ
        refine ev_if_eq 37 dX10_moving_21 (by decide) (fun _ => ?_) (fun h9 => absurd (by decide : ((0 : Int32) = 0)) h9)
        refine ev_iconst (0) dX10_moving_37 rfl ?_
        refine ev_iconst (1) dX10_moving_38 rfl ?_
        refine ev_cV mv_X10_right 1 0 10 [ev_i 0, ev_i 1] [] dX10_moving_39 kw_1951 rfl (by decide) rfl (by decide) (by decide) (Nat.le_of_ble_eq_true rfl) (Q' := fun o z => ev_After g m_X10_moving 5 (0 - 0) 39 [some (ev_o 10 a), some (ev_i x0), some (ev_i x1), some (ev_i x2), some (ev_i x3), none, none] [] z Q o) (sg_X10_right_0 a 0 1 ?_) (fun o z h => h) rfl
        by_cases c15 : (S.1 a 7) = 0
        · rw [if_pos c15]
          rw [if_pos c15] at hQ
          rw [if_pos (by decide : ((0 : Int32) = 0))]
          intro S11 hS11
          replace hQ := hQ S11 hS11
          rw [if_neg (by decide : ¬ ((1 : Int32) = 0))]
          show ev_E g m_X10_moving 5 0 42 [some (ev_o 10 a), some (ev_i x0), some (ev_i x1), some (ev_i x2), some (ev_i x3), none, none] [ev_i 0] S11 Q
          refine ev_if_eq 93 dX10_moving_42 (by decide) (fun _ => ?_) (fun h9 => absurd (by decide : ((0 : Int32) = 0)) h9)
          refine ev_iconst (0) dX10_moving_93 rfl ?_
          exact ev_ireturn .int dX10_moving_94 rfl rfl hQ
        · rw [if_neg c15]
          rw [if_neg c15] at hQ
          show ev_E g m_X10_moving 5 0 42 [some (ev_o 10 a), some (ev_i x0), some (ev_i x1), some (ev_i x2), some (ev_i x3), none, none] [ev_i 0] S Q
          refine ev_if_eq 93 dX10_moving_42 (by decide) (fun _ => ?_) (fun h9 => absurd (by decide : ((0 : Int32) = 0)) h9)
          refine ev_iconst (0) dX10_moving_93 rfl ?_
          exact ev_ireturn .int dX10_moving_94 rfl rfl hQ
    · rw [if_neg c2]
      rw [if_neg c2] at hQ
      refine ev_if_eq 37 dX10_moving_13 (by decide) (fun _ => ?_) (fun h9 => absurd (by decide : ((0 : Int32) = 0)) h9)
      refine ev_iconst (0) dX10_moving_37 rfl ?_
      refine ev_iconst (1) dX10_moving_38 rfl ?_
      refine ev_cV mv_X10_right 1 0 10 [ev_i 0, ev_i 1] [] dX10_moving_39 kw_1951 rfl (by decide) rfl (by decide) (by decide) (Nat.le_of_ble_eq_true rfl) (Q' := fun o z => ev_After g m_X10_moving 5 (0 - 0) 39 [some (ev_o 10 a), some (ev_i x0), some (ev_i x1), some (ev_i x2), some (ev_i x3), none, none] [] z Q o) (sg_X10_right_0 a 0 1 ?_) (fun o z h => h) rfl
      by_cases c16 : (S.1 a 7) = 0
      · rw [if_pos c16]
        rw [if_pos c16] at hQ
        rw [if_pos (by decide : ((0 : Int32) = 0))]
        intro S12 hS12
        replace hQ := hQ S12 hS12
        rw [if_neg (by decide : ¬ ((1 : Int32) = 0))]
        show ev_E g m_X10_moving 5 0 42 [some (ev_o 10 a), some (ev_i x0), some (ev_i x1), some (ev_i x2), some (ev_i x3), none, none] [ev_i 0] S12 Q
        refine ev_if_eq 93 dX10_moving_42 (by decide) (fun _ => ?_) (fun h9 => absurd (by decide : ((0 : Int32) = 0)) h9)
        refine ev_iconst (0) dX10_moving_93 rfl ?_
        exact ev_ireturn .int dX10_moving_94 rfl rfl hQ
      · rw [if_neg c16]
        rw [if_neg c16] at hQ
        show ev_E g m_X10_moving 5 0 42 [some (ev_o 10 a), some (ev_i x0), some (ev_i x1), some (ev_i x2), some (ev_i x3), none, none] [ev_i 0] S Q
        refine ev_if_eq 93 dX10_moving_42 (by decide) (fun _ => ?_) (fun h9 => absurd (by decide : ((0 : Int32) = 0)) h9)
        refine ev_iconst (0) dX10_moving_93 rfl ?_
        exact ev_ireturn .int dX10_moving_94 rfl rfl hQ
  · rw [if_neg c1]
    rw [if_neg c1] at hQ
    refine ev_if_eq 37 dX10_moving_5 (by decide) (fun _ => ?_) (fun h9 => absurd (by decide : ((0 : Int32) = 0)) h9)
    refine ev_iconst (0) dX10_moving_37 rfl ?_
    refine ev_iconst (1) dX10_moving_38 rfl ?_
    refine ev_cV mv_X10_right 1 0 10 [ev_i 0, ev_i 1] [] dX10_moving_39 kw_1951 rfl (by decide) rfl (by decide) (by decide) (Nat.le_of_ble_eq_true rfl) (Q' := fun o z => ev_After g m_X10_moving 5 (0 - 0) 39 [some (ev_o 10 a), some (ev_i x0), some (ev_i x1), some (ev_i x2), some (ev_i x3), none, none] [] z Q o) (sg_X10_right_0 a 0 1 ?_) (fun o z h => h) rfl
    by_cases c17 : (S.1 a 7) = 0
    · rw [if_pos c17]
      rw [if_pos c17] at hQ
      rw [if_pos (by decide : ((0 : Int32) = 0))]
      intro S13 hS13
      replace hQ := hQ S13 hS13
      rw [if_neg (by decide : ¬ ((1 : Int32) = 0))]
      show ev_E g m_X10_moving 5 0 42 [some (ev_o 10 a), some (ev_i x0), some (ev_i x1), some (ev_i x2), some (ev_i x3), none, none] [ev_i 0] S13 Q
      refine ev_if_eq 93 dX10_moving_42 (by decide) (fun _ => ?_) (fun h9 => absurd (by decide : ((0 : Int32) = 0)) h9)
      refine ev_iconst (0) dX10_moving_93 rfl ?_
      exact ev_ireturn .int dX10_moving_94 rfl rfl hQ
    · rw [if_neg c17]
      rw [if_neg c17] at hQ
      show ev_E g m_X10_moving 5 0 42 [some (ev_o 10 a), some (ev_i x0), some (ev_i x1), some (ev_i x2), some (ev_i x3), none, none] [ev_i 0] S Q
      refine ev_if_eq 93 dX10_moving_42 (by decide) (fun _ => ?_) (fun h9 => absurd (by decide : ((0 : Int32) = 0)) h9)
      refine ev_iconst (0) dX10_moving_93 rfl ?_
      exact ev_ireturn .int dX10_moving_94 rfl rfl hQ
set_option maxHeartbeats 4000000 in
set_option maxRecDepth 100000 in
theorem sg_X10_areMoves_0 {g : ev_G} {S : ev_S} {Q : ev_O → ev_S → Prop} (a : Nat) (x0 : Int32) (x1 : Int32) (x2 : Int32) (x3 : Int32) (x4 : Int32) (hQ : ev_Cv g m_X10_moves 3 0 [ev_o 10 a, ev_i x0, ev_i (1 - x0), ev_i x1, ev_i x2] S (fun o S1 => ∃ v1_ : Bool, o = .inl (some (ev_i (if v1_ = true then 1 else 0))) ∧ (
    if v1_ = true then (
      (vp_in ((12 + (7 * x0)) + 0) 2091) ∧ (
        if ((S1.1 (a + 1) ((12 + (7 * x0)) + 0).toNatClampNeg) + 1) = (S1.1 (a + 1) 1) then (
          Q (.inl (some (ev_i 0))) S1)
        else (
          (vp_in ((26 + (64 * x0)) + x1) 2091) ∧ (
            ∀ S2 : ev_S, S2 = (ev_up S1 a 24 (S1.1 (a + 1) ((26 + (64 * x0)) + x1).toNatClampNeg)) → (
              (vp_in ((26 + (64 * x0)) + x2) 2091) ∧ (
                ∀ S3 : ev_S, S3 = (ev_up S2 a 25 (S1.1 (a + 1) ((26 + (64 * x0)) + x2).toNatClampNeg)) → (
                  ∀ S4 : ev_S, S4 = (ev_up S3 (a + 1) ((26 + (64 * x0)) + x2).toNatClampNeg (S1.1 (a + 1) ((26 + (64 * x0)) + x1).toNatClampNeg)) → (
                    ∀ S5 : ev_S, S5 = (ev_up S4 (a + 1) ((26 + (64 * x0)) + x1).toNatClampNeg (-1)) → (
                      ev_Cv g m_X10_bishopsOf 2 0 [ev_o 10 a, ev_i x0, ev_i x0] S5 (fun o S6 => ∃ v2_ : Int32, o = .inl (some (ev_i v2_)) ∧ (
                        if v2_ ≤ 0 then (
                          ∀ S7 : ev_S, S7 = (ev_up S6 (a + 1) ((26 + (64 * x0)) + x1).toNatClampNeg (S6.1 a 24)) → (
                            ∀ S8 : ev_S, S8 = (ev_up S7 (a + 1) ((26 + (64 * x0)) + x2).toNatClampNeg (S6.1 a 25)) → (
                              Q (.inl (some (ev_i 0))) S8)))
                        else (
                          ev_Cv g m_X10_moves 3 0 [ev_o 10 a, ev_i x0, ev_i x0, ev_i x3, ev_i x4] S6 (fun o S9 => ∃ v3_ : Bool, o = .inl (some (ev_i (if v3_ = true then 1 else 0))) ∧ (
                            if v3_ = true then (
                              ∀ S10 : ev_S, S10 = (ev_up S9 (a + 1) ((26 + (64 * x0)) + x1).toNatClampNeg (S9.1 a 24)) → (
                                ∀ S11 : ev_S, S11 = (ev_up S10 (a + 1) ((26 + (64 * x0)) + x2).toNatClampNeg (S9.1 a 25)) → (
                                  Q (.inl (some (ev_i 1))) S11)))
                            else (
                              ∀ S12 : ev_S, S12 = (ev_up S9 (a + 1) ((26 + (64 * x0)) + x1).toNatClampNeg (S9.1 a 24)) → (
                                ∀ S13 : ev_S, S13 = (ev_up S12 (a + 1) ((26 + (64 * x0)) + x2).toNatClampNeg (S9.1 a 25)) → (
                                  Q (.inl (some (ev_i 0))) S13)))))))))))))))))
    else (
      Q (.inl (some (ev_i 0))) S1)))) : ev_Cv g m_X10_areMoves 4 0 [ev_o 10 a, ev_i x0, ev_i x1, ev_i x2, ev_i x3, ev_i x4] S Q := by
  refine ev_enter (by decide) rfl rfl (Nat.le_of_ble_eq_true rfl) ?_
  show ev_E g m_X10_areMoves 4 0 0 [some (ev_o 10 a), some (ev_i x0), some (ev_i x1), some (ev_i x2), some (ev_i x3), some (ev_i x4), none] [] S Q
  refine ev_aload_n (ev_o 10 a) dX10_areMoves_0 rfl rfl ?_
  refine ev_iload_n (x0) dX10_areMoves_1 rfl ?_
  refine ev_iconst (1) dX10_areMoves_2 rfl ?_
  refine ev_iload_n (x0) dX10_areMoves_3 rfl ?_
  refine ev_isub dX10_areMoves_4 ?_
  refine ev_iload_n (x1) dX10_areMoves_5 rfl ?_
  refine ev_iload_n (x2) dX10_areMoves_6 rfl ?_
  refine ev_cV mv_X10_moves 3 0 10 [ev_i x0, ev_i (1 - x0), ev_i x1, ev_i x2] [] dX10_areMoves_7 kw_2059 rfl (by decide) rfl (by decide) (by decide) (Nat.le_of_ble_eq_true rfl) hQ ?_ rfl
  rintro o S1 ⟨v1_, rfl, hQ⟩
  show ev_E g m_X10_areMoves 4 0 10 [some (ev_o 10 a), some (ev_i x0), some (ev_i x1), some (ev_i x2), some (ev_i x3), some (ev_i x4), none] [ev_i (if v1_ = true then 1 else 0)] S1 Q
  by_cases c1 : v1_ = true
  · rw [if_pos c1]
    rw [if_pos c1] at hQ
    refine ev_if_eq 27 dX10_areMoves_10 (by decide) (fun h9 => absurd h9 (by decide : ¬ ((1 : Int32) = 0))) (fun _ => ?_)
    refine ev_aload_n (ev_o 10 a) dX10_areMoves_13 rfl rfl ?_
    refine ev_iload_n (x0) dX10_areMoves_14 rfl ?_
    obtain ⟨h1, hQ⟩ := hQ
    refine ev_fV mv_X10_nextNumber 2 10 [ev_i x0] [] dX10_areMoves_15 kw_2052 rfl (by decide) rfl (by decide) (Nat.le_of_ble_eq_true rfl) (sp_X10_nextNumber a x0 h1) ?_ rfl
    refine ev_aload_n (ev_o 10 a) dX10_areMoves_18 rfl rfl ?_
    refine gf_10_0 dX10_areMoves_19 kw_1853 ?_
    refine ev_iconst (1) dX10_areMoves_22 rfl ?_
    refine ev_iaload dX10_areMoves_23 (j_vin (by decide)) ?_
    refine ev_icmp_ne 29 dX10_areMoves_24 (by decide) (fun c2 => ?_) (fun c2 => ?_)
    · rw [if_neg c2] at hQ
      refine ev_aload_n (ev_o 10 a) dX10_areMoves_29 rfl rfl ?_
      refine ev_aload_n (ev_o 10 a) dX10_areMoves_30 rfl rfl ?_
      refine ev_iload_n (x0) dX10_areMoves_31 rfl ?_
      refine ev_iload_n (x1) dX10_areMoves_32 rfl ?_
      obtain ⟨h2, hQ⟩ := hQ
      refine ev_fV mv_X10_owner 1 10 [ev_i x0, ev_i x1] [ev_o 10 a] dX10_areMoves_33 kw_1831 rfl (by decide) rfl (by decide) (Nat.le_of_ble_eq_true rfl) (sp_X10_owner a x0 x1 h2) ?_ rfl
      refine pf_10_24 dX10_areMoves_36 kw_1877 ?_
      obtain ⟨S2, hS2⟩ : ∃ z, z = (ev_up S1 a 24 (S1.1 (a + 1) ((26 + (64 * x0)) + x1).toNatClampNeg)) := ⟨_, rfl⟩
      refine ev_E.goal (pc' := 39) (L' := [some (ev_o 10 a), some (ev_i x0), some (ev_i x1), some (ev_i x2), some (ev_i x3), some (ev_i x4), none]) (K' := []) (S' := S2) ?_ rfl rfl rfl hS2
      replace hQ := hQ S2 hS2
      refine ev_aload_n (ev_o 10 a) dX10_areMoves_39 rfl rfl ?_
      refine ev_aload_n (ev_o 10 a) dX10_areMoves_40 rfl rfl ?_
      refine ev_iload_n (x0) dX10_areMoves_41 rfl ?_
      refine ev_iload_n (x2) dX10_areMoves_42 rfl ?_
      obtain ⟨h3, hQ⟩ := hQ
      refine ev_fV mv_X10_owner 1 10 [ev_i x0, ev_i x2] [ev_o 10 a] dX10_areMoves_43 kw_1831 rfl (by decide) rfl (by decide) (Nat.le_of_ble_eq_true rfl) (sp_X10_owner a x0 x2 h3) ?_ rfl
      refine ev_ke (j_rk hS2 (Or.inl (by omega))) ?_
      refine pf_10_25 dX10_areMoves_46 kw_1878 ?_
      obtain ⟨S3, hS3⟩ : ∃ z, z = (ev_up S2 a 25 (S1.1 (a + 1) ((26 + (64 * x0)) + x2).toNatClampNeg)) := ⟨_, rfl⟩
      refine ev_E.goal (pc' := 49) (L' := [some (ev_o 10 a), some (ev_i x0), some (ev_i x1), some (ev_i x2), some (ev_i x3), some (ev_i x4), none]) (K' := []) (S' := S3) ?_ rfl rfl rfl hS3
      replace hQ := hQ S3 hS3
      refine ev_aload_n (ev_o 10 a) dX10_areMoves_49 rfl rfl ?_
      refine ev_iload_n (x0) dX10_areMoves_50 rfl ?_
      refine ev_iload_n (x2) dX10_areMoves_51 rfl ?_
      refine ev_aload_n (ev_o 10 a) dX10_areMoves_52 rfl rfl ?_
      refine gf_10_24 dX10_areMoves_53 kw_1877 ?_
      refine ev_ke ((j_rk hS3 (Or.inr (by decide))).trans (j_rs hS2)) ?_
      refine ev_fVn mv_X10_lays 1 10 [ev_i x0, ev_i x2, ev_i (S1.1 (a + 1) ((26 + (64 * x0)) + x1).toNatClampNeg)] [] dX10_areMoves_56 kw_1835 rfl (by decide) rfl (by decide) (Nat.le_of_ble_eq_true rfl) (sp_X10_lays a x0 x2 (S1.1 (a + 1) ((26 + (64 * x0)) + x1).toNatClampNeg) h3) ?_ rfl
      obtain ⟨S4, hS4⟩ : ∃ z, z = (ev_up S3 (a + 1) ((26 + (64 * x0)) + x2).toNatClampNeg (S1.1 (a + 1) ((26 + (64 * x0)) + x1).toNatClampNeg)) := ⟨_, rfl⟩
      refine ev_E.goal (pc' := 59) (L' := [some (ev_o 10 a), some (ev_i x0), some (ev_i x1), some (ev_i x2), some (ev_i x3), some (ev_i x4), none]) (K' := []) (S' := S4) ?_ rfl rfl rfl hS4
      replace hQ := hQ S4 hS4
      refine ev_aload_n (ev_o 10 a) dX10_areMoves_59 rfl rfl ?_
      refine ev_iload_n (x0) dX10_areMoves_60 rfl ?_
      refine ev_iload_n (x1) dX10_areMoves_61 rfl ?_
      refine ev_iconst (-1) dX10_areMoves_62 rfl ?_
      refine ev_fVn mv_X10_lays 1 10 [ev_i x0, ev_i x1, ev_i (-1)] [] dX10_areMoves_63 kw_1835 rfl (by decide) rfl (by decide) (Nat.le_of_ble_eq_true rfl) (sp_X10_lays a x0 x1 (-1) h2) ?_ rfl
      obtain ⟨S5, hS5⟩ : ∃ z, z = (ev_up S4 (a + 1) ((26 + (64 * x0)) + x1).toNatClampNeg (-1)) := ⟨_, rfl⟩
      refine ev_E.goal (pc' := 66) (L' := [some (ev_o 10 a), some (ev_i x0), some (ev_i x1), some (ev_i x2), some (ev_i x3), some (ev_i x4), none]) (K' := []) (S' := S5) ?_ rfl rfl rfl hS5
      replace hQ := hQ S5 hS5
      refine ev_aload_n (ev_o 10 a) dX10_areMoves_66 rfl rfl ?_
      refine ev_iload_n (x0) dX10_areMoves_67 rfl ?_
      refine ev_iload_n (x0) dX10_areMoves_68 rfl ?_
      refine ev_cV mv_X10_bishopsOf 2 0 10 [ev_i x0, ev_i x0] [] dX10_areMoves_69 kw_1823 rfl (by decide) rfl (by decide) (by decide) (Nat.le_of_ble_eq_true rfl) hQ ?_ rfl
      rintro o S6 ⟨v2_, rfl, hQ⟩
      show ev_E g m_X10_areMoves 4 0 72 [some (ev_o 10 a), some (ev_i x0), some (ev_i x1), some (ev_i x2), some (ev_i x3), some (ev_i x4), none] [ev_i v2_] S6 Q
      refine ev_if_le 92 dX10_areMoves_72 (by decide) (fun c3 => ?_) (fun c3 => ?_)
      · rw [if_pos c3] at hQ
        refine ev_iconst (0) dX10_areMoves_92 rfl ?_
        refine ev_istore dX10_areMoves_93 (Nat.le_of_ble_eq_true rfl) (ev_hw rfl) ?_
        show ev_E g m_X10_areMoves 4 0 95 [some (ev_o 10 a), some (ev_i x0), some (ev_i x1), some (ev_i x2), some (ev_i x3), some (ev_i x4), some (ev_i 0)] [] S6 Q
        refine ev_aload_n (ev_o 10 a) dX10_areMoves_95 rfl rfl ?_
        refine ev_iload_n (x0) dX10_areMoves_96 rfl ?_
        refine ev_iload_n (x1) dX10_areMoves_97 rfl ?_
        refine ev_aload_n (ev_o 10 a) dX10_areMoves_98 rfl rfl ?_
        refine gf_10_24 dX10_areMoves_99 kw_1877 ?_
        refine ev_fVn mv_X10_lays 1 10 [ev_i x0, ev_i x1, ev_i (S6.1 a 24)] [] dX10_areMoves_102 kw_1835 rfl (by decide) rfl (by decide) (Nat.le_of_ble_eq_true rfl) (sp_X10_lays a x0 x1 (S6.1 a 24) h2) ?_ rfl
        obtain ⟨S7, hS7⟩ : ∃ z, z = (ev_up S6 (a + 1) ((26 + (64 * x0)) + x1).toNatClampNeg (S6.1 a 24)) := ⟨_, rfl⟩
        refine ev_E.goal (pc' := 105) (L' := [some (ev_o 10 a), some (ev_i x0), some (ev_i x1), some (ev_i x2), some (ev_i x3), some (ev_i x4), some (ev_i 0)]) (K' := []) (S' := S7) ?_ rfl rfl rfl hS7
        replace hQ := hQ S7 hS7
        refine ev_aload_n (ev_o 10 a) dX10_areMoves_105 rfl rfl ?_
        refine ev_iload_n (x0) dX10_areMoves_106 rfl ?_
        refine ev_iload_n (x2) dX10_areMoves_107 rfl ?_
        refine ev_aload_n (ev_o 10 a) dX10_areMoves_108 rfl rfl ?_
        refine gf_10_25 dX10_areMoves_109 kw_1878 ?_
        refine ev_ke (j_rk hS7 (Or.inl (by omega))) ?_
        refine ev_fVn mv_X10_lays 1 10 [ev_i x0, ev_i x2, ev_i (S6.1 a 25)] [] dX10_areMoves_112 kw_1835 rfl (by decide) rfl (by decide) (Nat.le_of_ble_eq_true rfl) (sp_X10_lays a x0 x2 (S6.1 a 25) h3) ?_ rfl
        obtain ⟨S8, hS8⟩ : ∃ z, z = (ev_up S7 (a + 1) ((26 + (64 * x0)) + x2).toNatClampNeg (S6.1 a 25)) := ⟨_, rfl⟩
        refine ev_E.goal (pc' := 115) (L' := [some (ev_o 10 a), some (ev_i x0), some (ev_i x1), some (ev_i x2), some (ev_i x3), some (ev_i x4), some (ev_i 0)]) (K' := []) (S' := S8) ?_ rfl rfl rfl hS8
        replace hQ := hQ S8 hS8
        refine ev_iload (0) dX10_areMoves_115 rfl ?_
        exact ev_ireturn .boolean dX10_areMoves_117 rfl rfl hQ
      · rw [if_neg c3] at hQ
        refine ev_aload_n (ev_o 10 a) dX10_areMoves_75 rfl rfl ?_
        refine ev_iload_n (x0) dX10_areMoves_76 rfl ?_
        refine ev_iload_n (x0) dX10_areMoves_77 rfl ?_
        refine ev_iload (x3) dX10_areMoves_78 rfl ?_
        refine ev_iload (x4) dX10_areMoves_80 rfl ?_
        refine ev_cV mv_X10_moves 3 0 10 [ev_i x0, ev_i x0, ev_i x3, ev_i x4] [] dX10_areMoves_82 kw_2059 rfl (by decide) rfl (by decide) (by decide) (Nat.le_of_ble_eq_true rfl) hQ ?_ rfl
        rintro o S9 ⟨v3_, rfl, hQ⟩
        show ev_E g m_X10_areMoves 4 0 85 [some (ev_o 10 a), some (ev_i x0), some (ev_i x1), some (ev_i x2), some (ev_i x3), some (ev_i x4), none] [ev_i (if v3_ = true then 1 else 0)] S9 Q
        by_cases c4 : v3_ = true
        · rw [if_pos c4]
          rw [if_pos c4] at hQ
          refine ev_if_eq 92 dX10_areMoves_85 (by decide) (fun h9 => absurd h9 (by decide : ¬ ((1 : Int32) = 0))) (fun _ => ?_)
          refine ev_iconst (1) dX10_areMoves_88 rfl ?_
          refine ev_goto 93 dX10_areMoves_89 (by decide) ?_
          refine ev_istore dX10_areMoves_93 (Nat.le_of_ble_eq_true rfl) (ev_hw rfl) ?_
          show ev_E g m_X10_areMoves 4 0 95 [some (ev_o 10 a), some (ev_i x0), some (ev_i x1), some (ev_i x2), some (ev_i x3), some (ev_i x4), some (ev_i 1)] [] S9 Q
          refine ev_aload_n (ev_o 10 a) dX10_areMoves_95 rfl rfl ?_
          refine ev_iload_n (x0) dX10_areMoves_96 rfl ?_
          refine ev_iload_n (x1) dX10_areMoves_97 rfl ?_
          refine ev_aload_n (ev_o 10 a) dX10_areMoves_98 rfl rfl ?_
          refine gf_10_24 dX10_areMoves_99 kw_1877 ?_
          refine ev_fVn mv_X10_lays 1 10 [ev_i x0, ev_i x1, ev_i (S9.1 a 24)] [] dX10_areMoves_102 kw_1835 rfl (by decide) rfl (by decide) (Nat.le_of_ble_eq_true rfl) (sp_X10_lays a x0 x1 (S9.1 a 24) h2) ?_ rfl
          obtain ⟨S10, hS10⟩ : ∃ z, z = (ev_up S9 (a + 1) ((26 + (64 * x0)) + x1).toNatClampNeg (S9.1 a 24)) := ⟨_, rfl⟩
          refine ev_E.goal (pc' := 105) (L' := [some (ev_o 10 a), some (ev_i x0), some (ev_i x1), some (ev_i x2), some (ev_i x3), some (ev_i x4), some (ev_i 1)]) (K' := []) (S' := S10) ?_ rfl rfl rfl hS10
          replace hQ := hQ S10 hS10
          refine ev_aload_n (ev_o 10 a) dX10_areMoves_105 rfl rfl ?_
          refine ev_iload_n (x0) dX10_areMoves_106 rfl ?_
          refine ev_iload_n (x2) dX10_areMoves_107 rfl ?_
          refine ev_aload_n (ev_o 10 a) dX10_areMoves_108 rfl rfl ?_
          refine gf_10_25 dX10_areMoves_109 kw_1878 ?_
          refine ev_ke (j_rk hS10 (Or.inl (by omega))) ?_
          refine ev_fVn mv_X10_lays 1 10 [ev_i x0, ev_i x2, ev_i (S9.1 a 25)] [] dX10_areMoves_112 kw_1835 rfl (by decide) rfl (by decide) (Nat.le_of_ble_eq_true rfl) (sp_X10_lays a x0 x2 (S9.1 a 25) h3) ?_ rfl
          obtain ⟨S11, hS11⟩ : ∃ z, z = (ev_up S10 (a + 1) ((26 + (64 * x0)) + x2).toNatClampNeg (S9.1 a 25)) := ⟨_, rfl⟩
          refine ev_E.goal (pc' := 115) (L' := [some (ev_o 10 a), some (ev_i x0), some (ev_i x1), some (ev_i x2), some (ev_i x3), some (ev_i x4), some (ev_i 1)]) (K' := []) (S' := S11) ?_ rfl rfl rfl hS11
          replace hQ := hQ S11 hS11
          refine ev_iload (1) dX10_areMoves_115 rfl ?_
          exact ev_ireturn .boolean dX10_areMoves_117 rfl rfl hQ
        · rw [if_neg c4]
          rw [if_neg c4] at hQ
          refine ev_if_eq 92 dX10_areMoves_85 (by decide) (fun _ => ?_) (fun h9 => absurd (by decide : ((0 : Int32) = 0)) h9)
          refine ev_iconst (0) dX10_areMoves_92 rfl ?_
          refine ev_istore dX10_areMoves_93 (Nat.le_of_ble_eq_true rfl) (ev_hw rfl) ?_
          show ev_E g m_X10_areMoves 4 0 95 [some (ev_o 10 a), some (ev_i x0), some (ev_i x1), some (ev_i x2), some (ev_i x3), some (ev_i x4), some (ev_i 0)] [] S9 Q
          refine ev_aload_n (ev_o 10 a) dX10_areMoves_95 rfl rfl ?_
          refine ev_iload_n (x0) dX10_areMoves_96 rfl ?_
          refine ev_iload_n (x1) dX10_areMoves_97 rfl ?_
          refine ev_aload_n (ev_o 10 a) dX10_areMoves_98 rfl rfl ?_
          refine gf_10_24 dX10_areMoves_99 kw_1877 ?_
          refine ev_fVn mv_X10_lays 1 10 [ev_i x0, ev_i x1, ev_i (S9.1 a 24)] [] dX10_areMoves_102 kw_1835 rfl (by decide) rfl (by decide) (Nat.le_of_ble_eq_true rfl) (sp_X10_lays a x0 x1 (S9.1 a 24) h2) ?_ rfl
          obtain ⟨S12, hS12⟩ : ∃ z, z = (ev_up S9 (a + 1) ((26 + (64 * x0)) + x1).toNatClampNeg (S9.1 a 24)) := ⟨_, rfl⟩
          refine ev_E.goal (pc' := 105) (L' := [some (ev_o 10 a), some (ev_i x0), some (ev_i x1), some (ev_i x2), some (ev_i x3), some (ev_i x4), some (ev_i 0)]) (K' := []) (S' := S12) ?_ rfl rfl rfl hS12
          replace hQ := hQ S12 hS12
          refine ev_aload_n (ev_o 10 a) dX10_areMoves_105 rfl rfl ?_
          refine ev_iload_n (x0) dX10_areMoves_106 rfl ?_
          refine ev_iload_n (x2) dX10_areMoves_107 rfl ?_
          refine ev_aload_n (ev_o 10 a) dX10_areMoves_108 rfl rfl ?_
          refine gf_10_25 dX10_areMoves_109 kw_1878 ?_
          refine ev_ke (j_rk hS12 (Or.inl (by omega))) ?_
          refine ev_fVn mv_X10_lays 1 10 [ev_i x0, ev_i x2, ev_i (S9.1 a 25)] [] dX10_areMoves_112 kw_1835 rfl (by decide) rfl (by decide) (Nat.le_of_ble_eq_true rfl) (sp_X10_lays a x0 x2 (S9.1 a 25) h3) ?_ rfl
          obtain ⟨S13, hS13⟩ : ∃ z, z = (ev_up S12 (a + 1) ((26 + (64 * x0)) + x2).toNatClampNeg (S9.1 a 25)) := ⟨_, rfl⟩
          refine ev_E.goal (pc' := 115) (L' := [some (ev_o 10 a), some (ev_i x0), some (ev_i x1), some (ev_i x2), some (ev_i x3), some (ev_i x4), some (ev_i 0)]) (K' := []) (S' := S13) ?_ rfl rfl rfl hS13
          replace hQ := hQ S13 hS13
          refine ev_iload (0) dX10_areMoves_115 rfl ?_
          exact ev_ireturn .boolean dX10_areMoves_117 rfl rfl hQ
    · rw [if_pos c2] at hQ
      refine ev_iconst (0) dX10_areMoves_27 rfl ?_
      exact ev_ireturn .boolean dX10_areMoves_28 rfl rfl hQ
  · rw [if_neg c1]
    rw [if_neg c1] at hQ
    refine ev_if_eq 27 dX10_areMoves_10 (by decide) (fun _ => ?_) (fun h9 => absurd (by decide : ((0 : Int32) = 0)) h9)
    refine ev_iconst (0) dX10_areMoves_27 rfl ?_
    exact ev_ireturn .boolean dX10_areMoves_28 rfl rfl hQ
