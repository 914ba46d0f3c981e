set_option maxHeartbeats 4000000 in
set_option maxRecDepth 100000 in
theorem sg_X9_bytesIn_0 {g : ev_G} {S : ev_S} {Q : ev_O → ev_S → Prop} (x0 : Int32) (hQ : ev_E g m_X9_bytesIn 1 0 5 [some (ev_i x0), some (ev_i 0), some (ev_i 24)] [] S Q) : ev_Cv g m_X9_bytesIn 1 0 [ev_i x0] S Q := by
  refine ev_enter (by decide) rfl rfl (Nat.le_of_ble_eq_true rfl) ?_
  show ev_E g m_X9_bytesIn 1 0 0 [some (ev_i x0), none, none] [] S Q
  refine ev_iconst (0) dX9_bytesIn_0 rfl ?_
  refine ev_istore_n dX9_bytesIn_1 (Nat.le_of_ble_eq_true rfl) (ev_hw rfl) ?_
  show ev_E g m_X9_bytesIn 1 0 2 [some (ev_i x0), some (ev_i 0), none] [] S Q
  refine ev_bipush (24) dX9_bytesIn_2 (by decide) ?_
  refine ev_istore_n dX9_bytesIn_4 (Nat.le_of_ble_eq_true rfl) (ev_hw rfl) ?_
  show ev_E g m_X9_bytesIn 1 0 5 [some (ev_i x0), some (ev_i 0), some (ev_i 24)] [] S Q
  exact hQ
set_option maxHeartbeats 4000000 in
set_option maxRecDepth 100000 in
theorem sg_X9_bytesIn_5 {g : ev_G} {S : ev_S} {Q : ev_O → ev_S → Prop} (u0 : Int32) (u1 : Int32) (u2 : Int32) (hQ : (u2 < 0 → (
    Q (.inl (some (ev_i u1))) S)) ∧
  (¬ (u2 < 0) → (
    (((j_iushr u0 u2) &&& 255) = 0 → (
      ev_E g m_X9_bytesIn 1 0 5 [some (ev_i u0), some (ev_i u1), some (ev_i (u2 + (-8)))] [] S Q)) ∧
    (¬ (((j_iushr u0 u2) &&& 255) = 0) → (
      ev_E g m_X9_bytesIn 1 0 5 [some (ev_i u0), some (ev_i (u1 + 1)), some (ev_i (u2 + (-8)))] [] S Q))))) : ev_E g m_X9_bytesIn 1 0 5 [some (ev_i u0), some (ev_i u1), some (ev_i u2)] [] S Q := by
  refine ev_iload_n (u2) dX9_bytesIn_5 rfl ?_
  refine ev_if_lt 28 dX9_bytesIn_6 (by decide) (fun c1 => ?_) (fun c1 => ?_)
  · replace hQ := hQ.1 c1
    refine ev_iload_n (u1) dX9_bytesIn_28 rfl ?_
    exact ev_ireturn .int dX9_bytesIn_29 rfl rfl hQ
  · replace hQ := hQ.2 c1
    refine ev_iload_n (u0) dX9_bytesIn_9 rfl ?_
    refine ev_iload_n (u2) dX9_bytesIn_10 rfl ?_
    refine ev_iushr dX9_bytesIn_11 ?_
    show ev_E g m_X9_bytesIn 1 0 12 [some (ev_i u0), some (ev_i u1), some (ev_i u2)] [ev_i (j_iushr u0 u2)] S Q
    refine ev_sipush (255) dX9_bytesIn_12 (by decide) ?_
    refine ev_iand dX9_bytesIn_15 ?_
    refine ev_if_eq 22 dX9_bytesIn_16 (by decide) (fun c2 => ?_) (fun c2 => ?_)
    · replace hQ := hQ.1 c2
      refine ev_iinc u2 (-8) dX9_bytesIn_22 rfl (by decide) (ev_hw rfl) ?_
      show ev_E g m_X9_bytesIn 1 0 25 [some (ev_i u0), some (ev_i u1), some (ev_i (u2 + (-8)))] [] S Q
      refine ev_goto 5 dX9_bytesIn_25 (by decide) ?_
      exact hQ
    · replace hQ := hQ.2 c2
      refine ev_iinc u1 (1) dX9_bytesIn_19 rfl (by decide) (ev_hw rfl) ?_
      show ev_E g m_X9_bytesIn 1 0 22 [some (ev_i u0), some (ev_i (u1 + 1)), some (ev_i u2)] [] S Q
      refine ev_iinc u2 (-8) dX9_bytesIn_22 rfl (by decide) (ev_hw rfl) ?_
      show ev_E g m_X9_bytesIn 1 0 25 [some (ev_i u0), some (ev_i (u1 + 1)), some (ev_i (u2 + (-8)))] [] S Q
      refine ev_goto 5 dX9_bytesIn_25 (by decide) ?_
      exact hQ
set_option maxHeartbeats 4000000 in
set_option maxRecDepth 100000 in
theorem sg_X8_length_0 {g : ev_G} {S : ev_S} {Q : ev_O → ev_S → Prop} (a : Nat) (hQ : Q (.inl (some (ev_i (S.1 a 1)))) S) : ev_Cv g m_X8_length 1 0 [ev_o 8 a] S Q := by
  refine ev_enter (by decide) rfl rfl (Nat.le_of_ble_eq_true rfl) ?_
  show ev_E g m_X8_length 1 0 0 [some (ev_o 8 a)] [] S Q
  refine ev_aload_n (ev_o 8 a) dX8_length_0 rfl rfl ?_
  refine gf_8_1 dX8_length_1 kw_64 ?_
  exact ev_ireturn .int dX8_length_4 rfl rfl hQ
set_option maxHeartbeats 4000000 in
set_option maxRecDepth 100000 in
theorem sp_X8_length {g : ev_G} {S : ev_S} (a : Nat)  : ev_Fn g m_X8_length 1 [ev_o 8 a] S (some (ev_i (S.1 a 1))) S := by
  intro Q hQ
  refine sg_X8_length_0 a ?_
  exact hQ
set_option maxHeartbeats 4000000 in
set_option maxRecDepth 100000 in
theorem sg_X8_add_0 {g : ev_G} {S : ev_S} {Q : ev_O → ev_S → Prop} (a : Nat) (x0 : Int32) (hQ : (800 ≤ (S.1 a 1) → (
    Q (.inl none) S)) ∧
  (¬ (800 ≤ (S.1 a 1)) → (
    ∀ S1 : ev_S, S1 = (j_put S (a + 1) 800 (S.1 a 1) x0) → (
      ∀ S2 : ev_S, S2 = (ev_up S1 a 1 ((S1.1 a 1) + 1)) → (
        Q (.inl none) S2))))) : ev_Cv g m_X8_add 2 0 [ev_o 8 a, ev_i x0] S Q := by
  refine ev_enter (by decide) rfl rfl (Nat.le_of_ble_eq_true rfl) ?_
  show ev_E g m_X8_add 2 0 0 [some (ev_o 8 a), some (ev_i x0)] [] S Q
  refine ev_aload_n (ev_o 8 a) dX8_add_0 rfl rfl ?_
  refine gf_8_1 dX8_add_1 kw_64 ?_
  refine ev_aload_n (ev_o 8 a) dX8_add_4 rfl rfl ?_
  refine gf_8_0 dX8_add_5 kw_63 ?_
  refine ev_alen 800 dX8_add_8 rfl ?_
  refine ev_icmp_ge 34 dX8_add_9 (by decide) (fun c1 => ?_) (fun c1 => ?_)
  · replace hQ := hQ.1 c1
    exact ev_return dX8_add_34 rfl hQ
  · replace hQ := hQ.2 c1
    refine ev_aload_n (ev_o 8 a) dX8_add_12 rfl rfl ?_
    refine gf_8_0 dX8_add_13 kw_63 ?_
    refine ev_aload_n (ev_o 8 a) dX8_add_16 rfl rfl ?_
    refine gf_8_1 dX8_add_17 kw_64 ?_
    refine ev_iload_n (x0) dX8_add_20 rfl ?_
    refine ev_fNn ms_X9_put 1 [ev_y 800 (a + 1), ev_i (S.1 a 1), ev_i x0] [] dX8_add_21 (List.mem_of_getElem? (i := 9) rfl) rfl (by decide) (Nat.le_of_ble_eq_true rfl) (sp_X9_put 800 (a + 1) (S.1 a 1) x0) ?_ rfl
    refine ev_sub hQ (fun S1 hS1 hQ => ?_)
    refine ev_E.goal (pc' := 24) (L' := [some (ev_o 8 a), some (ev_i x0)]) (K' := []) (S' := S1) ?_ rfl rfl rfl hS1
    refine ev_aload_n (ev_o 8 a) dX8_add_24 rfl rfl ?_
    refine ev_dup dX8_add_25 rfl ?_
    refine gf_8_1 dX8_add_26 kw_64 ?_
    refine ev_iconst (1) dX8_add_29 rfl ?_
    refine ev_iadd dX8_add_30 ?_
    refine pf_8_1 dX8_add_31 kw_64 ?_
    refine ev_sub hQ (fun S2 hS2 hQ => ?_)
    refine ev_E.goal (pc' := 34) (L' := [some (ev_o 8 a), some (ev_i x0)]) (K' := []) (S' := S2) ?_ rfl rfl rfl hS2
    exact ev_return dX8_add_34 rfl hQ
set_option maxHeartbeats 4000000 in
set_option maxRecDepth 100000 in
theorem sg_X9_addBytes_0 {g : ev_G} {S : ev_S} {Q : ev_O → ev_S → Prop} (a : Nat) (x0 : Int32) (hQ : ev_E g m_X9_addBytes 3 0 3 [some (ev_o 9 a), some (ev_i x0), some (ev_i 24), none] [] S Q) : ev_Cv g m_X9_addBytes 3 0 [ev_o 9 a, ev_i x0] S Q := by
  refine ev_enter (by decide) rfl rfl (Nat.le_of_ble_eq_true rfl) ?_
  show ev_E g m_X9_addBytes 3 0 0 [some (ev_o 9 a), some (ev_i x0), none, none] [] S Q
  refine ev_bipush (24) dX9_addBytes_0 (by decide) ?_
  refine ev_istore_n dX9_addBytes_2 (Nat.le_of_ble_eq_true rfl) (ev_hw rfl) ?_
  show ev_E g m_X9_addBytes 3 0 3 [some (ev_o 9 a), some (ev_i x0), some (ev_i 24), none] [] S Q
  exact hQ
set_option maxHeartbeats 4000000 in
set_option maxRecDepth 100000 in
theorem sg_X9_addBytes_3 {g : ev_G} {S : ev_S} {Q : ev_O → ev_S → Prop} (a : Nat) (u1 : Int32) (u2 : Int32) (hQ : (u2 < 0 → (
    Q (.inl none) S)) ∧
  (¬ (u2 < 0) → (
    (((j_iushr u1 u2) &&& 255) = 0 → (
      ev_E g m_X9_addBytes 3 0 3 [some (ev_o 9 a), some (ev_i u1), some (ev_i (u2 + (-8))), none] [] S Q)) ∧
    (¬ (((j_iushr u1 u2) &&& 255) = 0) → (
      ev_Cv g m_X8_add 2 0 [ev_o 8 (a + 1), ev_i ((j_iushr u1 u2) &&& 255)] S (fun o S1 => o = .inl none ∧ (
        ev_E g m_X9_addBytes 3 0 3 [some (ev_o 9 a), some (ev_i u1), some (ev_i (u2 + (-8))), none] [] S1 Q))))))) : ev_E g m_X9_addBytes 3 0 3 [some (ev_o 9 a), some (ev_i u1), some (ev_i u2), none] [] S Q := by
  refine ev_iload_n (u2) dX9_addBytes_3 rfl ?_
  refine ev_if_lt 33 dX9_addBytes_4 (by decide) (fun c1 => ?_) (fun c1 => ?_)
  · replace hQ := hQ.1 c1
    exact ev_return dX9_addBytes_33 rfl hQ
  · replace hQ := hQ.2 c1
    refine ev_iload_n (u1) dX9_addBytes_7 rfl ?_
    refine ev_iload_n (u2) dX9_addBytes_8 rfl ?_
    refine ev_iushr dX9_addBytes_9 ?_
    show ev_E g m_X9_addBytes 3 0 10 [some (ev_o 9 a), some (ev_i u1), some (ev_i u2), none] [ev_i (j_iushr u1 u2)] S Q
    refine ev_sipush (255) dX9_addBytes_10 (by decide) ?_
    refine ev_iand dX9_addBytes_13 ?_
    refine ev_istore_n dX9_addBytes_14 (Nat.le_of_ble_eq_true rfl) (ev_hw rfl) ?_
    show ev_E g m_X9_addBytes 3 0 15 [some (ev_o 9 a), some (ev_i u1), some (ev_i u2), some (ev_i ((j_iushr u1 u2) &&& 255))] [] S Q
    refine ev_iload_n (((j_iushr u1 u2) &&& 255)) dX9_addBytes_15 rfl ?_
    refine ev_if_eq 27 dX9_addBytes_16 (by decide) (fun c2 => ?_) (fun c2 => ?_)
    · replace hQ := hQ.1 c2
      refine ev_iinc u2 (-8) dX9_addBytes_27 rfl (by decide) (ev_hw rfl) ?_
      show ev_E g m_X9_addBytes 3 0 30 [some (ev_o 9 a), some (ev_i u1), some (ev_i (u2 + (-8))), some (ev_i ((j_iushr u1 u2) &&& 255))] [] S Q
      refine ev_goto 3 dX9_addBytes_30 (by decide) ?_
      refine ev_fgm [true, true, true, false] ?_
      exact hQ
    · replace hQ := hQ.2 c2
      refine ev_aload_n (ev_o 9 a) dX9_addBytes_19 rfl rfl ?_
      refine gf_9_0 dX9_addBytes_20 kw_598 ?_
      refine ev_iload_n (((j_iushr u1 u2) &&& 255)) dX9_addBytes_23 rfl ?_
      refine ev_cV mv_X8_add 2 0 8 [ev_i ((j_iushr u1 u2) &&& 255)] [] dX9_addBytes_24 kw_384 rfl (by decide) rfl (by decide) (by decide) (Nat.le_of_ble_eq_true rfl) hQ ?_ rfl
      rintro o S1 ⟨rfl, hQ⟩
      show ev_E g m_X9_addBytes 3 0 27 [some (ev_o 9 a), some (ev_i u1), some (ev_i u2), some (ev_i ((j_iushr u1 u2) &&& 255))] [] S1 Q
      refine ev_iinc u2 (-8) dX9_addBytes_27 rfl (by decide) (ev_hw rfl) ?_
      show ev_E g m_X9_addBytes 3 0 30 [some (ev_o 9 a), some (ev_i u1), some (ev_i (u2 + (-8))), some (ev_i ((j_iushr u1 u2) &&& 255))] [] S1 Q
      refine ev_goto 3 dX9_addBytes_30 (by decide) ?_
      refine ev_fgm [true, true, true, false] ?_
      exact hQ
set_option maxHeartbeats 4000000 in
set_option maxRecDepth 100000 in
theorem sg_X9_append_0 {g : ev_G} {S : ev_S} {Q : ev_O → ev_S → Prop} (a : Nat) (x0 : Int32) (x1 : Int32) (x2 : Int32) (x3 : Int32) (x4 : Int32) (hQ : ev_Cv g m_X9_bytesIn 1 0 [ev_i x0] S (fun o S1 => ∃ v1_ : Int32, o = .inl (some (ev_i v1_)) ∧ (
    ev_Cv g m_X9_bytesIn 1 0 [ev_i x1] S1 (fun o S2 => ∃ v2_ : Int32, o = .inl (some (ev_i v2_)) ∧ (
      ev_Cv g m_X9_bytesIn 1 0 [ev_i x2] S2 (fun o S3 => ∃ v3_ : Int32, o = .inl (some (ev_i v3_)) ∧ (
        ev_Cv g m_X9_bytesIn 1 0 [ev_i x3] S3 (fun o S4 => ∃ v4_ : Int32, o = .inl (some (ev_i v4_)) ∧ (
          ev_Cv g m_X9_bytesIn 1 0 [ev_i x4] S4 (fun o S5 => ∃ v5_ : Int32, o = .inl (some (ev_i v5_)) ∧ (
            (((S5.1 (a + 1) 1) + ((((v1_ + v2_) + v3_) + v4_) + v5_)) ≤ 800 → (
              ev_Cv g m_X9_addBytes 3 0 [ev_o 9 a, ev_i x0] S5 (fun o S6 => o = .inl none ∧ (
                ev_Cv g m_X9_addBytes 3 0 [ev_o 9 a, ev_i x1] S6 (fun o S7 => o = .inl none ∧ (
                  ev_Cv g m_X9_addBytes 3 0 [ev_o 9 a, ev_i x2] S7 (fun o S8 => o = .inl none ∧ (
                    ev_Cv g m_X9_addBytes 3 0 [ev_o 9 a, ev_i x3] S8 (fun o S9 => o = .inl none ∧ (
                      ev_Cv g m_X9_addBytes 3 0 [ev_o 9 a, ev_i x4] S9 (fun o S10 => o = .inl none ∧ (
                        Q (.inl (some (ev_i (S10.1 (a + 1) 1)))) S10)))))))))))) ∧
            (¬ (((S5.1 (a + 1) 1) + ((((v1_ + v2_) + v3_) + v4_) + v5_)) ≤ 800) → (
              Q (.inr 1) S5))))))))))))) : ev_Cv g m_X9_append 4 1 [ev_o 9 a, ev_i x0, ev_i x1, ev_i x2, ev_i x3, ev_i x4] S Q := by
  refine ev_enter (by decide) rfl rfl (Nat.le_of_ble_eq_true rfl) ?_
  show ev_E g m_X9_append 4 1 0 [some (ev_o 9 a), some (ev_i x0), some (ev_i x1), some (ev_i x2), some (ev_i x3), some (ev_i x4), none] [] S Q
  refine ev_iload_n (x0) dX9_append_0 rfl ?_
  refine ev_cS ms_X9_bytesIn 1 0 [ev_i x0] [] dX9_append_1 kw_1903 rfl (by decide) (by decide) (Nat.le_of_ble_eq_true rfl) hQ ?_ rfl
  rintro o S1 ⟨v1_, rfl, hQ⟩
  show ev_E g m_X9_append 4 1 4 [some (ev_o 9 a), some (ev_i x0), some (ev_i x1), some (ev_i x2), some (ev_i x3), some (ev_i x4), none] [ev_i v1_] S1 Q
  refine ev_iload_n (x1) dX9_append_4 rfl ?_
  refine ev_cS ms_X9_bytesIn 1 0 [ev_i x1] [ev_i v1_] dX9_append_5 kw_1903 rfl (by decide) (by decide) (Nat.le_of_ble_eq_true rfl) hQ ?_ rfl
  rintro o S2 ⟨v2_, rfl, hQ⟩
  show ev_E g m_X9_append 4 1 8 [some (ev_o 9 a), some (ev_i x0), some (ev_i x1), some (ev_i x2), some (ev_i x3), some (ev_i x4), none] [ev_i v2_, ev_i v1_] S2 Q
  refine ev_iadd dX9_append_8 ?_
  refine ev_iload_n (x2) dX9_append_9 rfl ?_
  refine ev_cS ms_X9_bytesIn 1 0 [ev_i x2] [ev_i (v1_ + v2_)] dX9_append_10 kw_1903 rfl (by decide) (by decide) (Nat.le_of_ble_eq_true rfl) hQ ?_ rfl
  rintro o S3 ⟨v3_, rfl, hQ⟩
  show ev_E g m_X9_append 4 1 13 [some (ev_o 9 a), some (ev_i x0), some (ev_i x1), some (ev_i x2), some (ev_i x3), some (ev_i x4), none] [ev_i v3_, ev_i (v1_ + v2_)] S3 Q
  refine ev_iadd dX9_append_13 ?_
  refine ev_iload (x3) dX9_append_14 rfl ?_
  refine ev_cS ms_X9_bytesIn 1 0 [ev_i x3] [ev_i ((v1_ + v2_) + v3_)] dX9_append_16 kw_1903 rfl (by decide) (by decide) (Nat.le_of_ble_eq_true rfl) hQ ?_ rfl
  rintro o S4 ⟨v4_, rfl, hQ⟩
  show ev_E g m_X9_append 4 1 19 [some (ev_o 9 a), some (ev_i x0), some (ev_i x1), some (ev_i x2), some (ev_i x3), some (ev_i x4), none] [ev_i v4_, ev_i ((v1_ + v2_) + v3_)] S4 Q
  refine ev_iadd dX9_append_19 ?_
  refine ev_iload (x4) dX9_append_20 rfl ?_
  refine ev_cS ms_X9_bytesIn 1 0 [ev_i x4] [ev_i (((v1_ + v2_) + v3_) + v4_)] dX9_append_22 kw_1903 rfl (by decide) (by decide) (Nat.le_of_ble_eq_true rfl) hQ ?_ rfl
  rintro o S5 ⟨v5_, rfl, hQ⟩
  show ev_E g m_X9_append 4 1 25 [some (ev_o 9 a), some (ev_i x0), some (ev_i x1), some (ev_i x2), some (ev_i x3), some (ev_i x4), none] [ev_i v5_, ev_i (((v1_ + v2_) + v3_) + v4_)] S5 Q
  refine ev_iadd dX9_append_25 ?_
  refine ev_istore dX9_append_26 (Nat.le_of_ble_eq_true rfl) (ev_hw rfl) ?_
  show ev_E g m_X9_append 4 1 28 [some (ev_o 9 a), some (ev_i x0), some (ev_i x1), some (ev_i x2), some (ev_i x3), some (ev_i x4), some (ev_i ((((v1_ + v2_) + v3_) + v4_) + v5_))] [] S5 Q
  refine ev_aload_n (ev_o 9 a) dX9_append_28 rfl rfl ?_
  refine gf_9_0 dX9_append_29 kw_598 ?_
  refine ev_fV mv_X8_length 1 8 [] [] dX9_append_32 kw_1906 rfl (by decide) rfl (by decide) (Nat.le_of_ble_eq_true rfl) (sp_X8_length (a + 1)) ?_ rfl
  refine ev_iload (((((v1_ + v2_) + v3_) + v4_) + v5_)) dX9_append_35 rfl ?_
  refine ev_iadd dX9_append_37 ?_
  refine ev_sipush (800) dX9_append_38 (by decide) ?_
  refine ev_icmp_le 54 dX9_append_41 (by decide) (fun c1 => ?_) (fun c1 => ?_)
  · replace hQ := hQ.1 c1
    refine ev_aload_n (ev_o 9 a) dX9_append_54 rfl rfl ?_
    refine ev_iload_n (x0) dX9_append_55 rfl ?_
    refine ev_cV mv_X9_addBytes 3 0 9 [ev_i x0] [] dX9_append_56 kw_1911 rfl (by decide) rfl (by decide) (by decide) (Nat.le_of_ble_eq_true rfl) hQ ?_ rfl
    rintro o S6 ⟨rfl, hQ⟩
    show ev_E g m_X9_append 4 1 59 [some (ev_o 9 a), some (ev_i x0), some (ev_i x1), some (ev_i x2), some (ev_i x3), some (ev_i x4), some (ev_i ((((v1_ + v2_) + v3_) + v4_) + v5_))] [] S6 Q
    refine ev_aload_n (ev_o 9 a) dX9_append_59 rfl rfl ?_
    refine ev_iload_n (x1) dX9_append_60 rfl ?_
    refine ev_cV mv_X9_addBytes 3 0 9 [ev_i x1] [] dX9_append_61 kw_1911 rfl (by decide) rfl (by decide) (by decide) (Nat.le_of_ble_eq_true rfl) hQ ?_ rfl
    rintro o S7 ⟨rfl, hQ⟩
    show ev_E g m_X9_append 4 1 64 [some (ev_o 9 a), some (ev_i x0), some (ev_i x1), some (ev_i x2), some (ev_i x3), some (ev_i x4), some (ev_i ((((v1_ + v2_) + v3_) + v4_) + v5_))] [] S7 Q
    refine ev_aload_n (ev_o 9 a) dX9_append_64 rfl rfl ?_
    refine ev_iload_n (x2) dX9_append_65 rfl ?_
    refine ev_cV mv_X9_addBytes 3 0 9 [ev_i x2] [] dX9_append_66 kw_1911 rfl (by decide) rfl (by decide) (by decide) (Nat.le_of_ble_eq_true rfl) hQ ?_ rfl
    rintro o S8 ⟨rfl, hQ⟩
    show ev_E g m_X9_append 4 1 69 [some (ev_o 9 a), some (ev_i x0), some (ev_i x1), some (ev_i x2), some (ev_i x3), some (ev_i x4), some (ev_i ((((v1_ + v2_) + v3_) + v4_) + v5_))] [] S8 Q
    refine ev_aload_n (ev_o 9 a) dX9_append_69 rfl rfl ?_
    refine ev_iload (x3) dX9_append_70 rfl ?_
    refine ev_cV mv_X9_addBytes 3 0 9 [ev_i x3] [] dX9_append_72 kw_1911 rfl (by decide) rfl (by decide) (by decide) (Nat.le_of_ble_eq_true rfl) hQ ?_ rfl
    rintro o S9 ⟨rfl, hQ⟩
    show ev_E g m_X9_append 4 1 75 [some (ev_o 9 a), some (ev_i x0), some (ev_i x1), some (ev_i x2), some (ev_i x3), some (ev_i x4), some (ev_i ((((v1_ + v2_) + v3_) + v4_) + v5_))] [] S9 Q
    refine ev_aload_n (ev_o 9 a) dX9_append_75 rfl rfl ?_
    refine ev_iload (x4) dX9_append_76 rfl ?_
    refine ev_cV mv_X9_addBytes 3 0 9 [ev_i x4] [] dX9_append_78 kw_1911 rfl (by decide) rfl (by decide) (by decide) (Nat.le_of_ble_eq_true rfl) hQ ?_ rfl
    rintro o S10 ⟨rfl, hQ⟩
    show ev_E g m_X9_append 4 1 81 [some (ev_o 9 a), some (ev_i x0), some (ev_i x1), some (ev_i x2), some (ev_i x3), some (ev_i x4), some (ev_i ((((v1_ + v2_) + v3_) + v4_) + v5_))] [] S10 Q
    refine ev_aload_n (ev_o 9 a) dX9_append_81 rfl rfl ?_
    refine gf_9_0 dX9_append_82 kw_598 ?_
    refine ev_fV mv_X8_length 1 8 [] [] dX9_append_85 kw_1906 rfl (by decide) rfl (by decide) (Nat.le_of_ble_eq_true rfl) (sp_X8_length (a + 1)) ?_ rfl
    exact ev_ireturn .int dX9_append_88 rfl rfl hQ
  · replace hQ := hQ.2 c1
    exact ev_throw 1 88 90 92 14 "the text buffer would hold more than 800 bytes" (by decide) (by decide) rfl (by decide) kw_648 kw_44 (List.mem_of_getElem? (i := 14) rfl) at_X9_92 dX9_append_44 dX9_append_47 dX9_append_48 dX9_append_50 dX9_append_53 (Nat.le_of_ble_eq_true rfl) hQ
set_option maxHeartbeats 4000000 in
set_option maxRecDepth 100000 in
theorem sg_X8_isBlank_0 {g : ev_G} {S : ev_S} {Q : ev_O → ev_S → Prop} (x0 : Int32) (hQ : (x0 = 32 → (
    Q (.inl (some (ev_i 1))) S)) ∧
  (¬ (x0 = 32) → (
    (x0 = 10 → (
      Q (.inl (some (ev_i 1))) S)) ∧
    (¬ (x0 = 10) → (
      Q (.inl (some (ev_i 0))) S))))) : ev_Cv g m_X8_isBlank 1 0 [ev_i x0] S Q := by
  refine ev_enter (by decide) rfl rfl (Nat.le_of_ble_eq_true rfl) ?_
  show ev_E g m_X8_isBlank 1 0 0 [some (ev_i x0)] [] S Q
  refine ev_iload_n (x0) dX8_isBlank_0 rfl ?_
  refine ev_bipush (32) dX8_isBlank_1 (by decide) ?_
  refine ev_icmp_eq 12 dX8_isBlank_3 (by decide) (fun c1 => ?_) (fun c1 => ?_)
  · replace hQ := hQ.1 c1
    refine ev_iconst (1) dX8_isBlank_12 rfl ?_
    refine ev_goto 17 dX8_isBlank_13 (by decide) ?_
    exact ev_ireturn .boolean dX8_isBlank_17 rfl rfl hQ
  · replace hQ := hQ.2 c1
    refine ev_iload_n (x0) dX8_isBlank_6 rfl ?_
    refine ev_bipush (10) dX8_isBlank_7 (by decide) ?_
    refine ev_icmp_ne 16 dX8_isBlank_9 (by decide) (fun c2 => ?_) (fun c2 => ?_)
    · replace hQ := hQ.2 c2
      refine ev_iconst (0) dX8_isBlank_16 rfl ?_
      exact ev_ireturn .boolean dX8_isBlank_17 rfl rfl hQ
    · replace hQ := hQ.1 c2
      refine ev_iconst (1) dX8_isBlank_12 rfl ?_
      refine ev_goto 17 dX8_isBlank_13 (by decide) ?_
      exact ev_ireturn .boolean dX8_isBlank_17 rfl rfl hQ
def t_X8_isBlank (x0 : Int32) : Bool := if x0 = 32 then (true) else (if x0 = 10 then (true) else (false))
set_option maxHeartbeats 4000000 in
set_option maxRecDepth 100000 in
theorem sp_X8_isBlank {g : ev_G} {S : ev_S} (x0 : Int32)  : ev_Fn g m_X8_isBlank 1 [ev_i x0] S (some (ev_i (if (t_X8_isBlank x0) = true then 1 else 0))) S := by
  intro Q hQ
  refine sg_X8_isBlank_0 x0 ?_
  unfold t_X8_isBlank at hQ
  refine ⟨fun c1 => ?_, fun c1 => ?_⟩
  · rw [if_pos c1] at hQ
    exact hQ
  · rw [if_neg c1] at hQ
    refine ⟨fun c2 => ?_, fun c2 => ?_⟩
    · rw [if_pos c2] at hQ
      exact hQ
    · rw [if_neg c2] at hQ
      exact hQ
set_option maxHeartbeats 4000000 in
set_option maxRecDepth 100000 in
theorem sg_X8_isLetter_0 {g : ev_G} {S : ev_S} {Q : ev_O → ev_S → Prop} (x0 : Int32) (hQ : (x0 < 97 → (
    Q (.inl (some (ev_i 0))) S)) ∧
  (¬ (x0 < 97) → (
    (122 < x0 → (
      Q (.inl (some (ev_i 0))) S)) ∧
    (¬ (122 < x0) → (
      Q (.inl (some (ev_i 1))) S))))) : ev_Cv g m_X8_isLetter 1 0 [ev_i x0] S Q := by
  refine ev_enter (by decide) rfl rfl (Nat.le_of_ble_eq_true rfl) ?_
  show ev_E g m_X8_isLetter 1 0 0 [some (ev_i x0)] [] S Q
  refine ev_iload_n (x0) dX8_isLetter_0 rfl ?_
  refine ev_bipush (97) dX8_isLetter_1 (by decide) ?_
  refine ev_icmp_lt 16 dX8_isLetter_3 (by decide) (fun c1 => ?_) (fun c1 => ?_)
  · replace hQ := hQ.1 c1
    refine ev_iconst (0) dX8_isLetter_16 rfl ?_
    exact ev_ireturn .boolean dX8_isLetter_17 rfl rfl hQ
  · replace hQ := hQ.2 c1
    refine ev_iload_n (x0) dX8_isLetter_6 rfl ?_
    refine ev_bipush (122) dX8_isLetter_7 (by decide) ?_
    refine ev_icmp_gt 16 dX8_isLetter_9 (by decide) (fun c2 => ?_) (fun c2 => ?_)
    · replace hQ := hQ.1 c2
      refine ev_iconst (0) dX8_isLetter_16 rfl ?_
      exact ev_ireturn .boolean dX8_isLetter_17 rfl rfl hQ
    · replace hQ := hQ.2 c2
      refine ev_iconst (1) dX8_isLetter_12 rfl ?_
      refine ev_goto 17 dX8_isLetter_13 (by decide) ?_
      exact ev_ireturn .boolean dX8_isLetter_17 rfl rfl hQ
def t_X8_isLetter (x0 : Int32) : Bool := if x0 < 97 then (false) else (if 122 < x0 then (false) else (true))
set_option maxHeartbeats 4000000 in
set_option maxRecDepth 100000 in
theorem sp_X8_isLetter {g : ev_G} {S : ev_S} (x0 : Int32)  : ev_Fn g m_X8_isLetter 1 [ev_i x0] S (some (ev_i (if (t_X8_isLetter x0) = true then 1 else 0))) S := by
  intro Q hQ
  refine sg_X8_isLetter_0 x0 ?_
  unfold t_X8_isLetter at hQ
  refine ⟨fun c1 => ?_, fun c1 => ?_⟩
  · rw [if_pos c1] at hQ
    exact hQ
  · rw [if_neg c1] at hQ
    refine ⟨fun c2 => ?_, fun c2 => ?_⟩
    · rw [if_pos c2] at hQ
      exact hQ
    · rw [if_neg c2] at hQ
      exact hQ
set_option maxHeartbeats 4000000 in
set_option maxRecDepth 100000 in
theorem sg_X8_stepOverWord_0 {g : ev_G} {S : ev_S} {Q : ev_O → ev_S → Prop} (a : Nat) (hQ : ∀ S1 : ev_S, S1 = (ev_up S a 2 1) → (
    ev_E g m_X8_stepOverWord 2 0 5 [some (ev_o 8 a)] [] S1 Q)) : ev_Cv g m_X8_stepOverWord 2 0 [ev_o 8 a] S Q := by
  refine ev_enter (by decide) rfl rfl (Nat.le_of_ble_eq_true rfl) ?_
  show ev_E g m_X8_stepOverWord 2 0 0 [some (ev_o 8 a)] [] S Q
  refine ev_aload_n (ev_o 8 a) dX8_stepOverWord_0 rfl rfl ?_
  refine ev_iconst (1) dX8_stepOverWord_1 rfl ?_
  refine pf_8_2 dX8_stepOverWord_2 kw_65 ?_
  refine ev_sub hQ (fun S1 hS1 hQ => ?_)
  refine ev_E.goal (pc' := 5) (L' := [some (ev_o 8 a)]) (K' := []) (S' := S1) ?_ rfl rfl rfl hS1
  exact hQ
set_option maxHeartbeats 4000000 in
set_option maxRecDepth 100000 in
theorem sg_X8_stepOverWord_5 {g : ev_G} {S : ev_S} {Q : ev_O → ev_S → Prop} (a : Nat) (hQ : ((S.1 a 1) ≤ (S.1 a 5) → (
    Q (.inl none) S)) ∧
  (¬ ((S.1 a 1) ≤ (S.1 a 5)) → (
    ((t_X8_isLetter (j_at (S.1 (a + 1)) 800 (S.1 a 5))) = true → (
      ∀ S1 : ev_S, S1 = (ev_up S a 5 ((S.1 a 5) + 1)) → (
        ev_E g m_X8_stepOverWord 2 0 5 [some (ev_o 8 a)] [] S1 Q))) ∧
    (¬ ((t_X8_isLetter (j_at (S.1 (a + 1)) 800 (S.1 a 5))) = true) → (
      Q (.inl none) S))))) : ev_E g m_X8_stepOverWord 2 0 5 [some (ev_o 8 a)] [] S Q := by
  refine ev_aload_n (ev_o 8 a) dX8_stepOverWord_5 rfl rfl ?_
  refine gf_8_5 dX8_stepOverWord_6 kw_68 ?_
  refine ev_aload_n (ev_o 8 a) dX8_stepOverWord_9 rfl rfl ?_
  refine gf_8_1 dX8_stepOverWord_10 kw_64 ?_
  refine ev_icmp_ge 46 dX8_stepOverWord_13 (by decide) (fun c1 => ?_) (fun c1 => ?_)
  · replace hQ := hQ.1 c1
    exact ev_return dX8_stepOverWord_46 rfl hQ
  · replace hQ := hQ.2 c1
    refine ev_aload_n (ev_o 8 a) dX8_stepOverWord_16 rfl rfl ?_
    refine gf_8_0 dX8_stepOverWord_17 kw_63 ?_
    refine ev_aload_n (ev_o 8 a) dX8_stepOverWord_20 rfl rfl ?_
    refine gf_8_5 dX8_stepOverWord_21 kw_68 ?_
    refine ev_fN ms_X9_at 1 [ev_y 800 (a + 1), ev_i (S.1 a 5)] [] dX8_stepOverWord_24 (List.mem_of_getElem? (i := 10) rfl) rfl (by decide) (Nat.le_of_ble_eq_true rfl) (sp_X9_at 800 (a + 1) (S.1 a 5)) ?_ rfl
    refine ev_fS ms_X8_isLetter 1 [ev_i (j_at (S.1 (a + 1)) 800 (S.1 a 5))] [] dX8_stepOverWord_27 kw_409 rfl (by decide) (Nat.le_of_ble_eq_true rfl) (sp_X8_isLetter (j_at (S.1 (a + 1)) 800 (S.1 a 5))) ?_ rfl
    by_cases c2 : (t_X8_isLetter (j_at (S.1 (a + 1)) 800 (S.1 a 5))) = true
    · rw [if_pos c2]
      replace hQ := hQ.1 c2
      refine ev_if_eq 46 dX8_stepOverWord_30 (by decide) (fun h9 => absurd h9 (by decide : ¬ ((1 : Int32) = 0))) (fun _ => ?_)
      refine ev_aload_n (ev_o 8 a) dX8_stepOverWord_33 rfl rfl ?_
      refine ev_dup dX8_stepOverWord_34 rfl ?_
      refine gf_8_5 dX8_stepOverWord_35 kw_68 ?_
      refine ev_iconst (1) dX8_stepOverWord_38 rfl ?_
      refine ev_iadd dX8_stepOverWord_39 ?_
      refine pf_8_5 dX8_stepOverWord_40 kw_68 ?_
      refine ev_sub hQ (fun S1 hS1 hQ => ?_)
      refine ev_E.goal (pc' := 43) (L' := [some (ev_o 8 a)]) (K' := []) (S' := S1) ?_ rfl rfl rfl hS1
      refine ev_goto 5 dX8_stepOverWord_43 (by decide) ?_
      exact hQ
    · rw [if_neg c2]
      replace hQ := hQ.2 c2
      refine ev_if_eq 46 dX8_stepOverWord_30 (by decide) (fun _ => ?_) (fun h9 => absurd (by decide : ((0 : Int32) = 0)) h9)
      exact ev_return dX8_stepOverWord_46 rfl hQ
set_option maxHeartbeats 4000000 in
set_option maxRecDepth 100000 in
theorem sg_X8_isDigit_0 {g : ev_G} {S : ev_S} {Q : ev_O → ev_S → Prop} (x0 : Int32) (hQ : (x0 < 48 → (
    Q (.inl (some (ev_i 0))) S)) ∧
  (¬ (x0 < 48) → (
    (57 < x0 → (
      Q (.inl (some (ev_i 0))) S)) ∧
    (¬ (57 < x0) → (
      Q (.inl (some (ev_i 1))) S))))) : ev_Cv g m_X8_isDigit 1 0 [ev_i x0] S Q := by
  refine ev_enter (by decide) rfl rfl (Nat.le_of_ble_eq_true rfl) ?_
  show ev_E g m_X8_isDigit 1 0 0 [some (ev_i x0)] [] S Q
  refine ev_iload_n (x0) dX8_isDigit_0 rfl ?_
  refine ev_bipush (48) dX8_isDigit_1 (by decide) ?_
  refine ev_icmp_lt 16 dX8_isDigit_3 (by decide) (fun c1 => ?_) (fun c1 => ?_)
  · replace hQ := hQ.1 c1
    refine ev_iconst (0) dX8_isDigit_16 rfl ?_
    exact ev_ireturn .boolean dX8_isDigit_17 rfl rfl hQ
  · replace hQ := hQ.2 c1
    refine ev_iload_n (x0) dX8_isDigit_6 rfl ?_
    refine ev_bipush (57) dX8_isDigit_7 (by decide) ?_
    refine ev_icmp_gt 16 dX8_isDigit_9 (by decide) (fun c2 => ?_) (fun c2 => ?_)
    · replace hQ := hQ.1 c2
      refine ev_iconst (0) dX8_isDigit_16 rfl ?_
      exact ev_ireturn .boolean dX8_isDigit_17 rfl rfl hQ
    · replace hQ := hQ.2 c2
      refine ev_iconst (1) dX8_isDigit_12 rfl ?_
      refine ev_goto 17 dX8_isDigit_13 (by decide) ?_
      exact ev_ireturn .boolean dX8_isDigit_17 rfl rfl hQ
def t_X8_isDigit (x0 : Int32) : Bool := if x0 < 48 then (false) else (if 57 < x0 then (false) else (true))
set_option maxHeartbeats 4000000 in
set_option maxRecDepth 100000 in
theorem sp_X8_isDigit {g : ev_G} {S : ev_S} (x0 : Int32)  : ev_Fn g m_X8_isDigit 1 [ev_i x0] S (some (ev_i (if (t_X8_isDigit x0) = true then 1 else 0))) S := by
  intro Q hQ
  refine sg_X8_isDigit_0 x0 ?_
  unfold t_X8_isDigit at hQ
  refine ⟨fun c1 => ?_, fun c1 => ?_⟩
  · rw [if_pos c1] at hQ
    exact hQ
  · rw [if_neg c1] at hQ
    refine ⟨fun c2 => ?_, fun c2 => ?_⟩
    · rw [if_pos c2] at hQ
      exact hQ
    · rw [if_neg c2] at hQ
      exact hQ
set_option maxHeartbeats 4000000 in
set_option maxRecDepth 100000 in
theorem sg_X8_stepOverNumber_0 {g : ev_G} {S : ev_S} {Q : ev_O → ev_S → Prop} (a : Nat) (hQ : ∀ S1 : ev_S, S1 = (ev_up S a 2 2) → (
    ev_E g m_X8_stepOverNumber 2 0 5 [some (ev_o 8 a)] [] S1 Q)) : ev_Cv g m_X8_stepOverNumber 2 0 [ev_o 8 a] S Q := by
  refine ev_enter (by decide) rfl rfl (Nat.le_of_ble_eq_true rfl) ?_
  show ev_E g m_X8_stepOverNumber 2 0 0 [some (ev_o 8 a)] [] S Q
  refine ev_aload_n (ev_o 8 a) dX8_stepOverNumber_0 rfl rfl ?_
  refine ev_iconst (2) dX8_stepOverNumber_1 rfl ?_
  refine pf_8_2 dX8_stepOverNumber_2 kw_65 ?_
  refine ev_sub hQ (fun S1 hS1 hQ => ?_)
  refine ev_E.goal (pc' := 5) (L' := [some (ev_o 8 a)]) (K' := []) (S' := S1) ?_ rfl rfl rfl hS1
  exact hQ
set_option maxHeartbeats 4000000 in
set_option maxRecDepth 100000 in
theorem sg_X8_stepOverNumber_5 {g : ev_G} {S : ev_S} {Q : ev_O → ev_S → Prop} (a : Nat) (hQ : ((S.1 a 1) ≤ (S.1 a 5) → (
    Q (.inl none) S)) ∧
  (¬ ((S.1 a 1) ≤ (S.1 a 5)) → (
    ((t_X8_isDigit (j_at (S.1 (a + 1)) 800 (S.1 a 5))) = true → (
      ∀ S1 : ev_S, S1 = (ev_up S a 3 (ev_min 1000 ((((S.1 a 3) * 10) + (j_at (S.1 (a + 1)) 800 (S.1 a 5))) - 48))) → (
        ∀ S2 : ev_S, S2 = (ev_up S1 a 5 ((S.1 a 5) + 1)) → (
          ev_E g m_X8_stepOverNumber 2 0 5 [some (ev_o 8 a)] [] S2 Q)))) ∧
    (¬ ((t_X8_isDigit (j_at (S.1 (a + 1)) 800 (S.1 a 5))) = true) → (
      Q (.inl none) S))))) : ev_E g m_X8_stepOverNumber 2 0 5 [some (ev_o 8 a)] [] S Q := by
  refine ev_aload_n (ev_o 8 a) dX8_stepOverNumber_5 rfl rfl ?_
  refine gf_8_5 dX8_stepOverNumber_6 kw_68 ?_
  refine ev_aload_n (ev_o 8 a) dX8_stepOverNumber_9 rfl rfl ?_
  refine gf_8_1 dX8_stepOverNumber_10 kw_64 ?_
  refine ev_icmp_ge 78 dX8_stepOverNumber_13 (by decide) (fun c1 => ?_) (fun c1 => ?_)
  · replace hQ := hQ.1 c1
    exact ev_return dX8_stepOverNumber_78 rfl hQ
  · replace hQ := hQ.2 c1
    refine ev_aload_n (ev_o 8 a) dX8_stepOverNumber_16 rfl rfl ?_
    refine gf_8_0 dX8_stepOverNumber_17 kw_63 ?_
    refine ev_aload_n (ev_o 8 a) dX8_stepOverNumber_20 rfl rfl ?_
    refine gf_8_5 dX8_stepOverNumber_21 kw_68 ?_
    refine ev_fN ms_X9_at 1 [ev_y 800 (a + 1), ev_i (S.1 a 5)] [] dX8_stepOverNumber_24 (List.mem_of_getElem? (i := 10) rfl) rfl (by decide) (Nat.le_of_ble_eq_true rfl) (sp_X9_at 800 (a + 1) (S.1 a 5)) ?_ rfl
    refine ev_fS ms_X8_isDigit 1 [ev_i (j_at (S.1 (a + 1)) 800 (S.1 a 5))] [] dX8_stepOverNumber_27 kw_416 rfl (by decide) (Nat.le_of_ble_eq_true rfl) (sp_X8_isDigit (j_at (S.1 (a + 1)) 800 (S.1 a 5))) ?_ rfl
    by_cases c2 : (t_X8_isDigit (j_at (S.1 (a + 1)) 800 (S.1 a 5))) = true
    · rw [if_pos c2]
      replace hQ := hQ.1 c2
      refine ev_if_eq 78 dX8_stepOverNumber_30 (by decide) (fun h9 => absurd h9 (by decide : ¬ ((1 : Int32) = 0))) (fun _ => ?_)
      refine ev_aload_n (ev_o 8 a) dX8_stepOverNumber_33 rfl rfl ?_
      refine ev_sipush (1000) dX8_stepOverNumber_34 (by decide) ?_
      refine ev_aload_n (ev_o 8 a) dX8_stepOverNumber_37 rfl rfl ?_
      refine gf_8_3 dX8_stepOverNumber_38 kw_66 ?_
      refine ev_bipush (10) dX8_stepOverNumber_41 (by decide) ?_
      refine ev_imul dX8_stepOverNumber_43 ?_
      refine ev_aload_n (ev_o 8 a) dX8_stepOverNumber_44 rfl rfl ?_
      refine gf_8_0 dX8_stepOverNumber_45 kw_63 ?_
      refine ev_aload_n (ev_o 8 a) dX8_stepOverNumber_48 rfl rfl ?_
      refine gf_8_5 dX8_stepOverNumber_49 kw_68 ?_
      refine ev_fN ms_X9_at 1 [ev_y 800 (a + 1), ev_i (S.1 a 5)] [ev_i ((S.1 a 3) * 10), ev_i 1000, ev_o 8 a] dX8_stepOverNumber_52 (List.mem_of_getElem? (i := 10) rfl) rfl (by decide) (Nat.le_of_ble_eq_true rfl) (sp_X9_at 800 (a + 1) (S.1 a 5)) ?_ rfl
      refine ev_iadd dX8_stepOverNumber_55 ?_
      refine ev_bipush (48) dX8_stepOverNumber_56 (by decide) ?_
      refine ev_isub dX8_stepOverNumber_58 ?_
      refine ev_mathMin dX8_stepOverNumber_59 kw_423 kw_424 kw_31 kw_425 (Nat.le_of_ble_eq_true rfl) ?_
      refine pf_8_3 dX8_stepOverNumber_62 kw_66 ?_
      refine ev_sub hQ (fun S1 hS1 hQ => ?_)
      refine ev_E.goal (pc' := 65) (L' := [some (ev_o 8 a)]) (K' := []) (S' := S1) ?_ rfl rfl rfl hS1
      refine ev_aload_n (ev_o 8 a) dX8_stepOverNumber_65 rfl rfl ?_
      refine ev_dup dX8_stepOverNumber_66 rfl ?_
      refine gf_8_5 dX8_stepOverNumber_67 kw_68 ?_
      refine ev_ke (j_rk hS1 (Or.inr (by decide))) ?_
      refine ev_iconst (1) dX8_stepOverNumber_70 rfl ?_
      refine ev_iadd dX8_stepOverNumber_71 ?_
      refine pf_8_5 dX8_stepOverNumber_72 kw_68 ?_
      refine ev_sub hQ (fun S2 hS2 hQ => ?_)
      refine ev_E.goal (pc' := 75) (L' := [some (ev_o 8 a)]) (K' := []) (S' := S2) ?_ rfl rfl rfl hS2
      refine ev_goto 5 dX8_stepOverNumber_75 (by decide) ?_
      exact hQ
    · rw [if_neg c2]
      replace hQ := hQ.2 c2
      refine ev_if_eq 78 dX8_stepOverNumber_30 (by decide) (fun _ => ?_) (fun h9 => absurd (by decide : ((0 : Int32) = 0)) h9)
      exact ev_return dX8_stepOverNumber_78 rfl hQ
set_option maxHeartbeats 4000000 in
set_option maxRecDepth 100000 in
theorem sg_X8_step_0 {g : ev_G} {S : ev_S} {Q : ev_O → ev_S → Prop} (a : Nat) (hQ : ∀ S1 : ev_S, S1 = (ev_up S a 6 (S.1 a 4)) → (
    ∀ S2 : ev_S, S2 = (ev_up S1 a 4 (S.1 a 5)) → (
      ev_E g m_X8_step 3 0 16 [some (ev_o 8 a), none] [] S2 Q))) : ev_Cv g m_X8_step 3 0 [ev_o 8 a] S Q := by
  refine ev_enter (by decide) rfl rfl (Nat.le_of_ble_eq_true rfl) ?_
  show ev_E g m_X8_step 3 0 0 [some (ev_o 8 a), none] [] S Q
  refine ev_aload_n (ev_o 8 a) dX8_step_0 rfl rfl ?_
  refine ev_aload_n (ev_o 8 a) dX8_step_1 rfl rfl ?_
  refine gf_8_4 dX8_step_2 kw_67 ?_
  refine pf_8_6 dX8_step_5 kw_69 ?_
  refine ev_sub hQ (fun S1 hS1 hQ => ?_)
  refine ev_E.goal (pc' := 8) (L' := [some (ev_o 8 a), none]) (K' := []) (S' := S1) ?_ rfl rfl rfl hS1
  refine ev_aload_n (ev_o 8 a) dX8_step_8 rfl rfl ?_
  refine ev_aload_n (ev_o 8 a) dX8_step_9 rfl rfl ?_
  refine gf_8_5 dX8_step_10 kw_68 ?_
  refine ev_ke (j_rk hS1 (Or.inr (by decide))) ?_
  refine pf_8_4 dX8_step_13 kw_67 ?_
  refine ev_sub hQ (fun S2 hS2 hQ => ?_)
  refine ev_E.goal (pc' := 16) (L' := [some (ev_o 8 a), none]) (K' := []) (S' := S2) ?_ rfl rfl rfl hS2
  exact hQ
set_option maxHeartbeats 4000000 in
set_option maxRecDepth 100000 in
theorem sg_X8_step_16 {g : ev_G} {S : ev_S} {Q : ev_O → ev_S → Prop} (a : Nat) (hQ : ((S.1 a 1) ≤ (S.1 a 4) → (
    ∀ S1 : ev_S, S1 = (ev_up S a 5 (S.1 a 4)) → (
      ∀ S2 : ev_S, S2 = (ev_up S1 a 3 0) → (
        ((S.1 a 4) < (S.1 a 1) → (
          ((t_X8_isLetter (j_at (S2.1 (a + 1)) 800 (S.1 a 4))) = true → (
            ev_Cv g m_X8_stepOverWord 2 0 [ev_o 8 a] S2 (fun o S3 => o = .inl none ∧ (
              Q (.inl none) S3)))) ∧
          (¬ ((t_X8_isLetter (j_at (S2.1 (a + 1)) 800 (S.1 a 4))) = true) → (
            ((t_X8_isDigit (j_at (S2.1 (a + 1)) 800 (S.1 a 4))) = true → (
              ev_Cv g m_X8_stepOverNumber 2 0 [ev_o 8 a] S2 (fun o S4 => o = .inl none ∧ (
                Q (.inl none) S4)))) ∧
            (¬ ((t_X8_isDigit (j_at (S2.1 (a + 1)) 800 (S.1 a 4))) = true) → (
              ((j_at (S2.1 (a + 1)) 800 (S.1 a 4)) = 59 → (
                ∀ S5 : ev_S, S5 = (ev_up S2 a 2 3) → (
                  ∀ S6 : ev_S, S6 = (ev_up S5 a 3 (j_at (S2.1 (a + 1)) 800 (S.1 a 4))) → (
                    ∀ S7 : ev_S, S7 = (ev_up S6 a 5 ((S.1 a 4) + 1)) → (
                      Q (.inl none) S7))))) ∧
              (¬ ((j_at (S2.1 (a + 1)) 800 (S.1 a 4)) = 59) → (
                ((j_at (S2.1 (a + 1)) 800 (S.1 a 4)) = 40 → (
                  ∀ S8 : ev_S, S8 = (ev_up S2 a 2 3) → (
                    ∀ S9 : ev_S, S9 = (ev_up S8 a 3 (j_at (S2.1 (a + 1)) 800 (S.1 a 4))) → (
                      ∀ S10 : ev_S, S10 = (ev_up S9 a 5 ((S.1 a 4) + 1)) → (
                        Q (.inl none) S10))))) ∧
                (¬ ((j_at (S2.1 (a + 1)) 800 (S.1 a 4)) = 40) → (
                  ((j_at (S2.1 (a + 1)) 800 (S.1 a 4)) = 41 → (
                    ∀ S14 : ev_S, S14 = (ev_up S2 a 2 3) → (
                      ∀ S15 : ev_S, S15 = (ev_up S14 a 3 (j_at (S2.1 (a + 1)) 800 (S.1 a 4))) → (
                        ∀ S16 : ev_S, S16 = (ev_up S15 a 5 ((S.1 a 4) + 1)) → (
                          Q (.inl none) S16))))) ∧
                  (¬ ((j_at (S2.1 (a + 1)) 800 (S.1 a 4)) = 41) → (
                    ∀ S11 : ev_S, S11 = (ev_up S2 a 2 4) → (
                      ∀ S12 : ev_S, S12 = (ev_up S11 a 3 (j_at (S2.1 (a + 1)) 800 (S.1 a 4))) → (
                        ∀ S13 : ev_S, S13 = (ev_up S12 a 5 ((S.1 a 4) + 1)) → (
                          Q (.inl none) S13))))))))))))))) ∧
        (¬ ((S.1 a 4) < (S.1 a 1)) → (
          ∀ S17 : ev_S, S17 = (ev_up S2 a 2 0) → (
            Q (.inl none) S17))))))) ∧
  (¬ ((S.1 a 1) ≤ (S.1 a 4)) → (
    ((t_X8_isBlank (j_at (S.1 (a + 1)) 800 (S.1 a 4))) = true → (
      ∀ S18 : ev_S, S18 = (ev_up S a 4 ((S.1 a 4) + 1)) → (
        ev_E g m_X8_step 3 0 16 [some (ev_o 8 a), none] [] S18 Q))) ∧
    (¬ ((t_X8_isBlank (j_at (S.1 (a + 1)) 800 (S.1 a 4))) = true) → (
      ∀ S19 : ev_S, S19 = (ev_up S a 5 (S.1 a 4)) → (
        ∀ S20 : ev_S, S20 = (ev_up S19 a 3 0) → (
          ((S.1 a 4) < (S.1 a 1) → (
            ((t_X8_isLetter (j_at (S20.1 (a + 1)) 800 (S.1 a 4))) = true → (
              ev_Cv g m_X8_stepOverWord 2 0 [ev_o 8 a] S20 (fun o S21 => o = .inl none ∧ (
                Q (.inl none) S21)))) ∧
            (¬ ((t_X8_isLetter (j_at (S20.1 (a + 1)) 800 (S.1 a 4))) = true) → (
              ((t_X8_isDigit (j_at (S20.1 (a + 1)) 800 (S.1 a 4))) = true → (
                ev_Cv g m_X8_stepOverNumber 2 0 [ev_o 8 a] S20 (fun o S22 => o = .inl none ∧ (
                  Q (.inl none) S22)))) ∧
              (¬ ((t_X8_isDigit (j_at (S20.1 (a + 1)) 800 (S.1 a 4))) = true) → (
                ((j_at (S20.1 (a + 1)) 800 (S.1 a 4)) = 59 → (
                  ∀ S23 : ev_S, S23 = (ev_up S20 a 2 3) → (
                    ∀ S24 : ev_S, S24 = (ev_up S23 a 3 (j_at (S20.1 (a + 1)) 800 (S.1 a 4))) → (
                      ∀ S25 : ev_S, S25 = (ev_up S24 a 5 ((S.1 a 4) + 1)) → (
                        Q (.inl none) S25))))) ∧
                (¬ ((j_at (S20.1 (a + 1)) 800 (S.1 a 4)) = 59) → (
                  ((j_at (S20.1 (a + 1)) 800 (S.1 a 4)) = 40 → (
                    ∀ S26 : ev_S, S26 = (ev_up S20 a 2 3) → (
                      ∀ S27 : ev_S, S27 = (ev_up S26 a 3 (j_at (S20.1 (a + 1)) 800 (S.1 a 4))) → (
                        ∀ S28 : ev_S, S28 = (ev_up S27 a 5 ((S.1 a 4) + 1)) → (
                          Q (.inl none) S28))))) ∧
                  (¬ ((j_at (S20.1 (a + 1)) 800 (S.1 a 4)) = 40) → (
                    ((j_at (S20.1 (a + 1)) 800 (S.1 a 4)) = 41 → (
                      ∀ S32 : ev_S, S32 = (ev_up S20 a 2 3) → (
                        ∀ S33 : ev_S, S33 = (ev_up S32 a 3 (j_at (S20.1 (a + 1)) 800 (S.1 a 4))) → (
                          ∀ S34 : ev_S, S34 = (ev_up S33 a 5 ((S.1 a 4) + 1)) → (
                            Q (.inl none) S34))))) ∧
                    (¬ ((j_at (S20.1 (a + 1)) 800 (S.1 a 4)) = 41) → (
                      ∀ S29 : ev_S, S29 = (ev_up S20 a 2 4) → (
                        ∀ S30 : ev_S, S30 = (ev_up S29 a 3 (j_at (S20.1 (a + 1)) 800 (S.1 a 4))) → (
                          ∀ S31 : ev_S, S31 = (ev_up S30 a 5 ((S.1 a 4) + 1)) → (
                            Q (.inl none) S31))))))))))))))) ∧
          (¬ ((S.1 a 4) < (S.1 a 1)) → (
            ∀ S35 : ev_S, S35 = (ev_up S20 a 2 0) → (
              Q (.inl none) S35)))))))))) : ev_E g m_X8_step 3 0 16 [some (ev_o 8 a), none] [] S Q := by
  refine ev_aload_n (ev_o 8 a) dX8_step_16 rfl rfl ?_
  refine gf_8_4 dX8_step_17 kw_67 ?_
  refine ev_aload_n (ev_o 8 a) dX8_step_20 rfl rfl ?_
  refine gf_8_1 dX8_step_21 kw_64 ?_
  refine ev_icmp_ge 57 dX8_step_24 (by decide) (fun c1 => ?_) (fun c1 => ?_)
  · replace hQ := hQ.1 c1
    refine ev_aload_n (ev_o 8 a) dX8_step_57 rfl rfl ?_
    refine ev_aload_n (ev_o 8 a) dX8_step_58 rfl rfl ?_
    refine gf_8_4 dX8_step_59 kw_67 ?_
    refine pf_8_5 dX8_step_62 kw_68 ?_
    refine ev_sub hQ (fun S1 hS1 hQ => ?_)
    refine ev_E.goal (pc' := 65) (L' := [some (ev_o 8 a), none]) (K' := []) (S' := S1) ?_ rfl rfl rfl hS1
    refine ev_aload_n (ev_o 8 a) dX8_step_65 rfl rfl ?_
    refine ev_iconst (0) dX8_step_66 rfl ?_
    refine pf_8_3 dX8_step_67 kw_66 ?_
    refine ev_sub hQ (fun S2 hS2 hQ => ?_)
    refine ev_E.goal (pc' := 70) (L' := [some (ev_o 8 a), none]) (K' := []) (S' := S2) ?_ rfl rfl rfl hS2
    refine ev_aload_n (ev_o 8 a) dX8_step_70 rfl rfl ?_
    refine gf_8_0 dX8_step_71 kw_63 ?_
    refine ev_aload_n (ev_o 8 a) dX8_step_74 rfl rfl ?_
    refine gf_8_4 dX8_step_75 kw_67 ?_
    refine ev_ke ((j_rk hS2 (Or.inr (by decide))).trans (j_rk hS1 (Or.inr (by decide)))) ?_
    refine ev_fN ms_X9_at 1 [ev_y 800 (a + 1), ev_i (S.1 a 4)] [] dX8_step_78 (List.mem_of_getElem? (i := 10) rfl) rfl (by decide) (Nat.le_of_ble_eq_true rfl) (sp_X9_at 800 (a + 1) (S.1 a 4)) ?_ rfl
    refine ev_istore_n dX8_step_81 (Nat.le_of_ble_eq_true rfl) (ev_hw rfl) ?_
    show ev_E g m_X8_step 3 0 82 [some (ev_o 8 a), some (ev_i (j_at (S2.1 (a + 1)) 800 (S.1 a 4)))] [] S2 Q
    refine ev_aload_n (ev_o 8 a) dX8_step_82 rfl rfl ?_
    refine gf_8_4 dX8_step_83 kw_67 ?_
    refine ev_ke ((j_rk hS2 (Or.inr (by decide))).trans (j_rk hS1 (Or.inr (by decide)))) ?_
    refine ev_aload_n (ev_o 8 a) dX8_step_86 rfl rfl ?_
    refine gf_8_1 dX8_step_87 kw_64 ?_
    refine ev_ke ((j_rk hS2 (Or.inr (by decide))).trans (j_rk hS1 (Or.inr (by decide)))) ?_
    refine ev_icmp_lt 101 dX8_step_90 (by decide) (fun c2 => ?_) (fun c2 => ?_)
    · replace hQ := hQ.1 c2
      refine ev_iload_n ((j_at (S2.1 (a + 1)) 800 (S.1 a 4))) dX8_step_101 rfl ?_
      refine ev_fS ms_X8_isLetter 1 [ev_i (j_at (S2.1 (a + 1)) 800 (S.1 a 4))] [] dX8_step_102 kw_409 rfl (by decide) (Nat.le_of_ble_eq_true rfl) (sp_X8_isLetter (j_at (S2.1 (a + 1)) 800 (S.1 a 4))) ?_ rfl
      by_cases c3 : (t_X8_isLetter (j_at (S2.1 (a + 1)) 800 (S.1 a 4))) = true
      · rw [if_pos c3]
        replace hQ := hQ.1 c3
        refine ev_if_eq 115 dX8_step_105 (by decide) (fun h9 => absurd h9 (by decide : ¬ ((1 : Int32) = 0))) (fun _ => ?_)
        refine ev_aload_n (ev_o 8 a) dX8_step_108 rfl rfl ?_
        refine ev_cV mv_X8_stepOverWord 2 0 8 [] [] dX8_step_109 kw_412 rfl (by decide) rfl (by decide) (by decide) (Nat.le_of_ble_eq_true rfl) hQ ?_ rfl
        rintro o S3 ⟨rfl, hQ⟩
        show ev_E g m_X8_step 3 0 112 [some (ev_o 8 a), some (ev_i (j_at (S2.1 (a + 1)) 800 (S.1 a 4)))] [] S3 Q
        refine ev_goto 171 dX8_step_112 (by decide) ?_
        exact ev_return dX8_step_171 rfl hQ
      · rw [if_neg c3]
        replace hQ := hQ.2 c3
        refine ev_if_eq 115 dX8_step_105 (by decide) (fun _ => ?_) (fun h9 => absurd (by decide : ((0 : Int32) = 0)) h9)
        refine ev_iload_n ((j_at (S2.1 (a + 1)) 800 (S.1 a 4))) dX8_step_115 rfl ?_
        refine ev_fS ms_X8_isDigit 1 [ev_i (j_at (S2.1 (a + 1)) 800 (S.1 a 4))] [] dX8_step_116 kw_416 rfl (by decide) (Nat.le_of_ble_eq_true rfl) (sp_X8_isDigit (j_at (S2.1 (a + 1)) 800 (S.1 a 4))) ?_ rfl
        by_cases c4 : (t_X8_isDigit (j_at (S2.1 (a + 1)) 800 (S.1 a 4))) = true
        · rw [if_pos c4]
          replace hQ := hQ.1 c4
          refine ev_if_eq 129 dX8_step_119 (by decide) (fun h9 => absurd h9 (by decide : ¬ ((1 : Int32) = 0))) (fun _ => ?_)
          refine ev_aload_n (ev_o 8 a) dX8_step_122 rfl rfl ?_
          refine ev_cV mv_X8_stepOverNumber 2 0 8 [] [] dX8_step_123 kw_419 rfl (by decide) rfl (by decide) (by decide) (Nat.le_of_ble_eq_true rfl) hQ ?_ rfl
          rintro o S4 ⟨rfl, hQ⟩
          show ev_E g m_X8_step 3 0 126 [some (ev_o 8 a), some (ev_i (j_at (S2.1 (a + 1)) 800 (S.1 a 4)))] [] S4 Q
          refine ev_goto 171 dX8_step_126 (by decide) ?_
          exact ev_return dX8_step_171 rfl hQ
        · rw [if_neg c4]
          replace hQ := hQ.2 c4
          refine ev_if_eq 129 dX8_step_119 (by decide) (fun _ => ?_) (fun h9 => absurd (by decide : ((0 : Int32) = 0)) h9)
          refine ev_aload_n (ev_o 8 a) dX8_step_129 rfl rfl ?_
          refine ev_iload_n ((j_at (S2.1 (a + 1)) 800 (S.1 a 4))) dX8_step_130 rfl ?_
          refine ev_bipush (59) dX8_step_131 (by decide) ?_
          refine ev_icmp_eq 148 dX8_step_133 (by decide) (fun c5 => ?_) (fun c5 => ?_)
          · replace hQ := hQ.1 c5
            refine ev_iconst (3) dX8_step_148 rfl ?_
            refine ev_goto 153 dX8_step_149 (by decide) ?_
            refine pf_8_2 dX8_step_153 kw_65 ?_
            refine ev_sub hQ (fun S5 hS5 hQ => ?_)
            refine ev_E.goal (pc' := 156) (L' := [some (ev_o 8 a), some (ev_i (j_at (S2.1 (a + 1)) 800 (S.1 a 4)))]) (K' := []) (S' := S5) ?_ rfl rfl rfl hS5
            refine ev_aload_n (ev_o 8 a) dX8_step_156 rfl rfl ?_
            refine ev_iload_n ((j_at (S2.1 (a + 1)) 800 (S.1 a 4))) dX8_step_157 rfl ?_
            refine pf_8_3 dX8_step_158 kw_66 ?_
            refine ev_sub hQ (fun S6 hS6 hQ => ?_)
            refine ev_E.goal (pc' := 161) (L' := [some (ev_o 8 a), some (ev_i (j_at (S2.1 (a + 1)) 800 (S.1 a 4)))]) (K' := []) (S' := S6) ?_ rfl rfl rfl hS6
            refine ev_aload_n (ev_o 8 a) dX8_step_161 rfl rfl ?_
            refine ev_aload_n (ev_o 8 a) dX8_step_162 rfl rfl ?_
            refine gf_8_4 dX8_step_163 kw_67 ?_
            refine ev_ke ((((j_rk hS6 (Or.inr (by decide))).trans (j_rk hS5 (Or.inr (by decide)))).trans (j_rk hS2 (Or.inr (by decide)))).trans (j_rk hS1 (Or.inr (by decide)))) ?_
            refine ev_iconst (1) dX8_step_166 rfl ?_
            refine ev_iadd dX8_step_167 ?_
            refine pf_8_5 dX8_step_168 kw_68 ?_
            refine ev_sub hQ (fun S7 hS7 hQ => ?_)
            refine ev_E.goal (pc' := 171) (L' := [some (ev_o 8 a), some (ev_i (j_at (S2.1 (a + 1)) 800 (S.1 a 4)))]) (K' := []) (S' := S7) ?_ rfl rfl rfl hS7
            exact ev_return dX8_step_171 rfl hQ
          · replace hQ := hQ.2 c5
            refine ev_iload_n ((j_at (S2.1 (a + 1)) 800 (S.1 a 4))) dX8_step_136 rfl ?_
            refine ev_bipush (40) dX8_step_137 (by decide) ?_
            refine ev_icmp_eq 148 dX8_step_139 (by decide) (fun c6 => ?_) (fun c6 => ?_)
            · replace hQ := hQ.1 c6
              refine ev_iconst (3) dX8_step_148 rfl ?_
              refine ev_goto 153 dX8_step_149 (by decide) ?_
              refine pf_8_2 dX8_step_153 kw_65 ?_
              refine ev_sub hQ (fun S8 hS8 hQ => ?_)
              refine ev_E.goal (pc' := 156) (L' := [some (ev_o 8 a), some (ev_i (j_at (S2.1 (a + 1)) 800 (S.1 a 4)))]) (K' := []) (S' := S8) ?_ rfl rfl rfl hS8
              refine ev_aload_n (ev_o 8 a) dX8_step_156 rfl rfl ?_
              refine ev_iload_n ((j_at (S2.1 (a + 1)) 800 (S.1 a 4))) dX8_step_157 rfl ?_
              refine pf_8_3 dX8_step_158 kw_66 ?_
              refine ev_sub hQ (fun S9 hS9 hQ => ?_)
              refine ev_E.goal (pc' := 161) (L' := [some (ev_o 8 a), some (ev_i (j_at (S2.1 (a + 1)) 800 (S.1 a 4)))]) (K' := []) (S' := S9) ?_ rfl rfl rfl hS9
              refine ev_aload_n (ev_o 8 a) dX8_step_161 rfl rfl ?_
              refine ev_aload_n (ev_o 8 a) dX8_step_162 rfl rfl ?_
              refine gf_8_4 dX8_step_163 kw_67 ?_
              refine ev_ke ((((j_rk hS9 (Or.inr (by decide))).trans (j_rk hS8 (Or.inr (by decide)))).trans (j_rk hS2 (Or.inr (by decide)))).trans (j_rk hS1 (Or.inr (by decide)))) ?_
              refine ev_iconst (1) dX8_step_166 rfl ?_
              refine ev_iadd dX8_step_167 ?_
              refine pf_8_5 dX8_step_168 kw_68 ?_
              refine ev_sub hQ (fun S10 hS10 hQ => ?_)
              refine ev_E.goal (pc' := 171) (L' := [some (ev_o 8 a), some (ev_i (j_at (S2.1 (a + 1)) 800 (S.1 a 4)))]) (K' := []) (S' := S10) ?_ rfl rfl rfl hS10
              exact ev_return dX8_step_171 rfl hQ
            · replace hQ := hQ.2 c6
              refine ev_iload_n ((j_at (S2.1 (a + 1)) 800 (S.1 a 4))) dX8_step_142 rfl ?_
              refine ev_bipush (41) dX8_step_143 (by decide) ?_
              refine ev_icmp_ne 152 dX8_step_145 (by decide) (fun c7 => ?_) (fun c7 => ?_)
              · replace hQ := hQ.2 c7
                refine ev_iconst (4) dX8_step_152 rfl ?_
                refine pf_8_2 dX8_step_153 kw_65 ?_
                refine ev_sub hQ (fun S11 hS11 hQ => ?_)
                refine ev_E.goal (pc' := 156) (L' := [some (ev_o 8 a), some (ev_i (j_at (S2.1 (a + 1)) 800 (S.1 a 4)))]) (K' := []) (S' := S11) ?_ rfl rfl rfl hS11
                refine ev_aload_n (ev_o 8 a) dX8_step_156 rfl rfl ?_
                refine ev_iload_n ((j_at (S2.1 (a + 1)) 800 (S.1 a 4))) dX8_step_157 rfl ?_
                refine pf_8_3 dX8_step_158 kw_66 ?_
                refine ev_sub hQ (fun S12 hS12 hQ => ?_)
                refine ev_E.goal (pc' := 161) (L' := [some (ev_o 8 a), some (ev_i (j_at (S2.1 (a + 1)) 800 (S.1 a 4)))]) (K' := []) (S' := S12) ?_ rfl rfl rfl hS12
                refine ev_aload_n (ev_o 8 a) dX8_step_161 rfl rfl ?_
                refine ev_aload_n (ev_o 8 a) dX8_step_162 rfl rfl ?_
                refine gf_8_4 dX8_step_163 kw_67 ?_
                refine ev_ke ((((j_rk hS12 (Or.inr (by decide))).trans (j_rk hS11 (Or.inr (by decide)))).trans (j_rk hS2 (Or.inr (by decide)))).trans (j_rk hS1 (Or.inr (by decide)))) ?_
                refine ev_iconst (1) dX8_step_166 rfl ?_
                refine ev_iadd dX8_step_167 ?_
                refine pf_8_5 dX8_step_168 kw_68 ?_
                refine ev_sub hQ (fun S13 hS13 hQ => ?_)
                refine ev_E.goal (pc' := 171) (L' := [some (ev_o 8 a), some (ev_i (j_at (S2.1 (a + 1)) 800 (S.1 a 4)))]) (K' := []) (S' := S13) ?_ rfl rfl rfl hS13
                exact ev_return dX8_step_171 rfl hQ
              · replace hQ := hQ.1 c7
                refine ev_iconst (3) dX8_step_148 rfl ?_
                refine ev_goto 153 dX8_step_149 (by decide) ?_
                refine pf_8_2 dX8_step_153 kw_65 ?_
                refine ev_sub hQ (fun S14 hS14 hQ => ?_)
                refine ev_E.goal (pc' := 156) (L' := [some (ev_o 8 a), some (ev_i (j_at (S2.1 (a + 1)) 800 (S.1 a 4)))]) (K' := []) (S' := S14) ?_ rfl rfl rfl hS14
                refine ev_aload_n (ev_o 8 a) dX8_step_156 rfl rfl ?_
                refine ev_iload_n ((j_at (S2.1 (a + 1)) 800 (S.1 a 4))) dX8_step_157 rfl ?_
                refine pf_8_3 dX8_step_158 kw_66 ?_
                refine ev_sub hQ (fun S15 hS15 hQ => ?_)
                refine ev_E.goal (pc' := 161) (L' := [some (ev_o 8 a), some (ev_i (j_at (S2.1 (a + 1)) 800 (S.1 a 4)))]) (K' := []) (S' := S15) ?_ rfl rfl rfl hS15
                refine ev_aload_n (ev_o 8 a) dX8_step_161 rfl rfl ?_
                refine ev_aload_n (ev_o 8 a) dX8_step_162 rfl rfl ?_
                refine gf_8_4 dX8_step_163 kw_67 ?_
                refine ev_ke ((((j_rk hS15 (Or.inr (by decide))).trans (j_rk hS14 (Or.inr (by decide)))).trans (j_rk hS2 (Or.inr (by decide)))).trans (j_rk hS1 (Or.inr (by decide)))) ?_
                refine ev_iconst (1) dX8_step_166 rfl ?_
                refine ev_iadd dX8_step_167 ?_
                refine pf_8_5 dX8_step_168 kw_68 ?_
                refine ev_sub hQ (fun S16 hS16 hQ => ?_)
                refine ev_E.goal (pc' := 171) (L' := [some (ev_o 8 a), some (ev_i (j_at (S2.1 (a + 1)) 800 (S.1 a 4)))]) (K' := []) (S' := S16) ?_ rfl rfl rfl hS16
                exact ev_return dX8_step_171 rfl hQ
    · replace hQ := hQ.2 c2
      refine ev_aload_n (ev_o 8 a) dX8_step_93 rfl rfl ?_
      refine ev_iconst (0) dX8_step_94 rfl ?_
      refine pf_8_2 dX8_step_95 kw_65 ?_
      refine ev_sub hQ (fun S17 hS17 hQ => ?_)
      refine ev_E.goal (pc' := 98) (L' := [some (ev_o 8 a), some (ev_i (j_at (S2.1 (a + 1)) 800 (S.1 a 4)))]) (K' := []) (S' := S17) ?_ rfl rfl rfl hS17
      refine ev_goto 171 dX8_step_98 (by decide) ?_
      exact ev_return dX8_step_171 rfl hQ
  · replace hQ := hQ.2 c1
    refine ev_aload_n (ev_o 8 a) dX8_step_27 rfl rfl ?_
    refine gf_8_0 dX8_step_28 kw_63 ?_
    refine ev_aload_n (ev_o 8 a) dX8_step_31 rfl rfl ?_
    refine gf_8_4 dX8_step_32 kw_67 ?_
    refine ev_fN ms_X9_at 1 [ev_y 800 (a + 1), ev_i (S.1 a 4)] [] dX8_step_35 (List.mem_of_getElem? (i := 10) rfl) rfl (by decide) (Nat.le_of_ble_eq_true rfl) (sp_X9_at 800 (a + 1) (S.1 a 4)) ?_ rfl
    refine ev_fS ms_X8_isBlank 1 [ev_i (j_at (S.1 (a + 1)) 800 (S.1 a 4))] [] dX8_step_38 kw_406 rfl (by decide) (Nat.le_of_ble_eq_true rfl) (sp_X8_isBlank (j_at (S.1 (a + 1)) 800 (S.1 a 4))) ?_ rfl
    by_cases c8 : (t_X8_isBlank (j_at (S.1 (a + 1)) 800 (S.1 a 4))) = true
    · rw [if_pos c8]
      replace hQ := hQ.1 c8
      refine ev_if_eq 57 dX8_step_41 (by decide) (fun h9 => absurd h9 (by decide : ¬ ((1 : Int32) = 0))) (fun _ => ?_)
      refine ev_aload_n (ev_o 8 a) dX8_step_44 rfl rfl ?_
      refine ev_dup dX8_step_45 rfl ?_
      refine gf_8_4 dX8_step_46 kw_67 ?_
      refine ev_iconst (1) dX8_step_49 rfl ?_
      refine ev_iadd dX8_step_50 ?_
      refine pf_8_4 dX8_step_51 kw_67 ?_
      refine ev_sub hQ (fun S18 hS18 hQ => ?_)
      refine ev_E.goal (pc' := 54) (L' := [some (ev_o 8 a), none]) (K' := []) (S' := S18) ?_ rfl rfl rfl hS18
      refine ev_goto 16 dX8_step_54 (by decide) ?_
      exact hQ
    · rw [if_neg c8]
      replace hQ := hQ.2 c8
      refine ev_if_eq 57 dX8_step_41 (by decide) (fun _ => ?_) (fun h9 => absurd (by decide : ((0 : Int32) = 0)) h9)
      refine ev_aload_n (ev_o 8 a) dX8_step_57 rfl rfl ?_
      refine ev_aload_n (ev_o 8 a) dX8_step_58 rfl rfl ?_
      refine gf_8_4 dX8_step_59 kw_67 ?_
      refine pf_8_5 dX8_step_62 kw_68 ?_
      refine ev_sub hQ (fun S19 hS19 hQ => ?_)
      refine ev_E.goal (pc' := 65) (L' := [some (ev_o 8 a), none]) (K' := []) (S' := S19) ?_ rfl rfl rfl hS19
      refine ev_aload_n (ev_o 8 a) dX8_step_65 rfl rfl ?_
      refine ev_iconst (0) dX8_step_66 rfl ?_
      refine pf_8_3 dX8_step_67 kw_66 ?_
      refine ev_sub hQ (fun S20 hS20 hQ => ?_)
      refine ev_E.goal (pc' := 70) (L' := [some (ev_o 8 a), none]) (K' := []) (S' := S20) ?_ rfl rfl rfl hS20
      refine ev_aload_n (ev_o 8 a) dX8_step_70 rfl rfl ?_
      refine gf_8_0 dX8_step_71 kw_63 ?_
      refine ev_aload_n (ev_o 8 a) dX8_step_74 rfl rfl ?_
      refine gf_8_4 dX8_step_75 kw_67 ?_
      refine ev_ke ((j_rk hS20 (Or.inr (by decide))).trans (j_rk hS19 (Or.inr (by decide)))) ?_
      refine ev_fN ms_X9_at 1 [ev_y 800 (a + 1), ev_i (S.1 a 4)] [] dX8_step_78 (List.mem_of_getElem? (i := 10) rfl) rfl (by decide) (Nat.le_of_ble_eq_true rfl) (sp_X9_at 800 (a + 1) (S.1 a 4)) ?_ rfl
      refine ev_istore_n dX8_step_81 (Nat.le_of_ble_eq_true rfl) (ev_hw rfl) ?_
      show ev_E g m_X8_step 3 0 82 [some (ev_o 8 a), some (ev_i (j_at (S20.1 (a + 1)) 800 (S.1 a 4)))] [] S20 Q
      refine ev_aload_n (ev_o 8 a) dX8_step_82 rfl rfl ?_
      refine gf_8_4 dX8_step_83 kw_67 ?_
      refine ev_ke ((j_rk hS20 (Or.inr (by decide))).trans (j_rk hS19 (Or.inr (by decide)))) ?_
      refine ev_aload_n (ev_o 8 a) dX8_step_86 rfl rfl ?_
      refine gf_8_1 dX8_step_87 kw_64 ?_
      refine ev_ke ((j_rk hS20 (Or.inr (by decide))).trans (j_rk hS19 (Or.inr (by decide)))) ?_
      refine ev_icmp_lt 101 dX8_step_90 (by decide) (fun c9 => ?_) (fun c9 => ?_)
      · replace hQ := hQ.1 c9
        refine ev_iload_n ((j_at (S20.1 (a + 1)) 800 (S.1 a 4))) dX8_step_101 rfl ?_
        refine ev_fS ms_X8_isLetter 1 [ev_i (j_at (S20.1 (a + 1)) 800 (S.1 a 4))] [] dX8_step_102 kw_409 rfl (by decide) (Nat.le_of_ble_eq_true rfl) (sp_X8_isLetter (j_at (S20.1 (a + 1)) 800 (S.1 a 4))) ?_ rfl
        by_cases c10 : (t_X8_isLetter (j_at (S20.1 (a + 1)) 800 (S.1 a 4))) = true
        · rw [if_pos c10]
          replace hQ := hQ.1 c10
          refine ev_if_eq 115 dX8_step_105 (by decide) (fun h9 => absurd h9 (by decide : ¬ ((1 : Int32) = 0))) (fun _ => ?_)
          refine ev_aload_n (ev_o 8 a) dX8_step_108 rfl rfl ?_
          refine ev_cV mv_X8_stepOverWord 2 0 8 [] [] dX8_step_109 kw_412 rfl (by decide) rfl (by decide) (by decide) (Nat.le_of_ble_eq_true rfl) hQ ?_ rfl
          rintro o S21 ⟨rfl, hQ⟩
          show ev_E g m_X8_step 3 0 112 [some (ev_o 8 a), some (ev_i (j_at (S20.1 (a + 1)) 800 (S.1 a 4)))] [] S21 Q
          refine ev_goto 171 dX8_step_112 (by decide) ?_
          exact ev_return dX8_step_171 rfl hQ
        · rw [if_neg c10]
          replace hQ := hQ.2 c10
          refine ev_if_eq 115 dX8_step_105 (by decide) (fun _ => ?_) (fun h9 => absurd (by decide : ((0 : Int32) = 0)) h9)
          refine ev_iload_n ((j_at (S20.1 (a + 1)) 800 (S.1 a 4))) dX8_step_115 rfl ?_
          refine ev_fS ms_X8_isDigit 1 [ev_i (j_at (S20.1 (a + 1)) 800 (S.1 a 4))] [] dX8_step_116 kw_416 rfl (by decide) (Nat.le_of_ble_eq_true rfl) (sp_X8_isDigit (j_at (S20.1 (a + 1)) 800 (S.1 a 4))) ?_ rfl
          by_cases c11 : (t_X8_isDigit (j_at (S20.1 (a + 1)) 800 (S.1 a 4))) = true
          · rw [if_pos c11]
            replace hQ := hQ.1 c11
            refine ev_if_eq 129 dX8_step_119 (by decide) (fun h9 => absurd h9 (by decide : ¬ ((1 : Int32) = 0))) (fun _ => ?_)
            refine ev_aload_n (ev_o 8 a) dX8_step_122 rfl rfl ?_
            refine ev_cV mv_X8_stepOverNumber 2 0 8 [] [] dX8_step_123 kw_419 rfl (by decide) rfl (by decide) (by decide) (Nat.le_of_ble_eq_true rfl) hQ ?_ rfl
            rintro o S22 ⟨rfl, hQ⟩
            show ev_E g m_X8_step 3 0 126 [some (ev_o 8 a), some (ev_i (j_at (S20.1 (a + 1)) 800 (S.1 a 4)))] [] S22 Q
            refine ev_goto 171 dX8_step_126 (by decide) ?_
            exact ev_return dX8_step_171 rfl hQ
          · rw [if_neg c11]
            replace hQ := hQ.2 c11
            refine ev_if_eq 129 dX8_step_119 (by decide) (fun _ => ?_) (fun h9 => absurd (by decide : ((0 : Int32) = 0)) h9)
            refine ev_aload_n (ev_o 8 a) dX8_step_129 rfl rfl ?_
            refine ev_iload_n ((j_at (S20.1 (a + 1)) 800 (S.1 a 4))) dX8_step_130 rfl ?_
            refine ev_bipush (59) dX8_step_131 (by decide) ?_
            refine ev_icmp_eq 148 dX8_step_133 (by decide) (fun c12 => ?_) (fun c12 => ?_)
            · replace hQ := hQ.1 c12
              refine ev_iconst (3) dX8_step_148 rfl ?_
              refine ev_goto 153 dX8_step_149 (by decide) ?_
              refine pf_8_2 dX8_step_153 kw_65 ?_
              refine ev_sub hQ (fun S23 hS23 hQ => ?_)
              refine ev_E.goal (pc' := 156) (L' := [some (ev_o 8 a), some (ev_i (j_at (S20.1 (a + 1)) 800 (S.1 a 4)))]) (K' := []) (S' := S23) ?_ rfl rfl rfl hS23
              refine ev_aload_n (ev_o 8 a) dX8_step_156 rfl rfl ?_
              refine ev_iload_n ((j_at (S20.1 (a + 1)) 800 (S.1 a 4))) dX8_step_157 rfl ?_
              refine pf_8_3 dX8_step_158 kw_66 ?_
              refine ev_sub hQ (fun S24 hS24 hQ => ?_)
              refine ev_E.goal (pc' := 161) (L' := [some (ev_o 8 a), some (ev_i (j_at (S20.1 (a + 1)) 800 (S.1 a 4)))]) (K' := []) (S' := S24) ?_ rfl rfl rfl hS24
              refine ev_aload_n (ev_o 8 a) dX8_step_161 rfl rfl ?_
              refine ev_aload_n (ev_o 8 a) dX8_step_162 rfl rfl ?_
              refine gf_8_4 dX8_step_163 kw_67 ?_
              refine ev_ke ((((j_rk hS24 (Or.inr (by decide))).trans (j_rk hS23 (Or.inr (by decide)))).trans (j_rk hS20 (Or.inr (by decide)))).trans (j_rk hS19 (Or.inr (by decide)))) ?_
              refine ev_iconst (1) dX8_step_166 rfl ?_
              refine ev_iadd dX8_step_167 ?_
              refine pf_8_5 dX8_step_168 kw_68 ?_
              refine ev_sub hQ (fun S25 hS25 hQ => ?_)
              refine ev_E.goal (pc' := 171) (L' := [some (ev_o 8 a), some (ev_i (j_at (S20.1 (a + 1)) 800 (S.1 a 4)))]) (K' := []) (S' := S25) ?_ rfl rfl rfl hS25
              exact ev_return dX8_step_171 rfl hQ
            · replace hQ := hQ.2 c12
              refine ev_iload_n ((j_at (S20.1 (a + 1)) 800 (S.1 a 4))) dX8_step_136 rfl ?_
              refine ev_bipush (40) dX8_step_137 (by decide) ?_
              refine ev_icmp_eq 148 dX8_step_139 (by decide) (fun c13 => ?_) (fun c13 => ?_)
              · replace hQ := hQ.1 c13
                refine ev_iconst (3) dX8_step_148 rfl ?_
                refine ev_goto 153 dX8_step_149 (by decide) ?_
                refine pf_8_2 dX8_step_153 kw_65 ?_
                refine ev_sub hQ (fun S26 hS26 hQ => ?_)
                refine ev_E.goal (pc' := 156) (L' := [some (ev_o 8 a), some (ev_i (j_at (S20.1 (a + 1)) 800 (S.1 a 4)))]) (K' := []) (S' := S26) ?_ rfl rfl rfl hS26
                refine ev_aload_n (ev_o 8 a) dX8_step_156 rfl rfl ?_
                refine ev_iload_n ((j_at (S20.1 (a + 1)) 800 (S.1 a 4))) dX8_step_157 rfl ?_
                refine pf_8_3 dX8_step_158 kw_66 ?_
                refine ev_sub hQ (fun S27 hS27 hQ => ?_)
                refine ev_E.goal (pc' := 161) (L' := [some (ev_o 8 a), some (ev_i (j_at (S20.1 (a + 1)) 800 (S.1 a 4)))]) (K' := []) (S' := S27) ?_ rfl rfl rfl hS27
                refine ev_aload_n (ev_o 8 a) dX8_step_161 rfl rfl ?_
                refine ev_aload_n (ev_o 8 a) dX8_step_162 rfl rfl ?_
                refine gf_8_4 dX8_step_163 kw_67 ?_
                refine ev_ke ((((j_rk hS27 (Or.inr (by decide))).trans (j_rk hS26 (Or.inr (by decide)))).trans (j_rk hS20 (Or.inr (by decide)))).trans (j_rk hS19 (Or.inr (by decide)))) ?_
                refine ev_iconst (1) dX8_step_166 rfl ?_
                refine ev_iadd dX8_step_167 ?_
                refine pf_8_5 dX8_step_168 kw_68 ?_
                refine ev_sub hQ (fun S28 hS28 hQ => ?_)
                refine ev_E.goal (pc' := 171) (L' := [some (ev_o 8 a), some (ev_i (j_at (S20.1 (a + 1)) 800 (S.1 a 4)))]) (K' := []) (S' := S28) ?_ rfl rfl rfl hS28
                exact ev_return dX8_step_171 rfl hQ
              · replace hQ := hQ.2 c13
                refine ev_iload_n ((j_at (S20.1 (a + 1)) 800 (S.1 a 4))) dX8_step_142 rfl ?_
                refine ev_bipush (41) dX8_step_143 (by decide) ?_
                refine ev_icmp_ne 152 dX8_step_145 (by decide) (fun c14 => ?_) (fun c14 => ?_)
                · replace hQ := hQ.2 c14
                  refine ev_iconst (4) dX8_step_152 rfl ?_
                  refine pf_8_2 dX8_step_153 kw_65 ?_
                  refine ev_sub hQ (fun S29 hS29 hQ => ?_)
                  refine ev_E.goal (pc' := 156) (L' := [some (ev_o 8 a), some (ev_i (j_at (S20.1 (a + 1)) 800 (S.1 a 4)))]) (K' := []) (S' := S29) ?_ rfl rfl rfl hS29
                  refine ev_aload_n (ev_o 8 a) dX8_step_156 rfl rfl ?_
                  refine ev_iload_n ((j_at (S20.1 (a + 1)) 800 (S.1 a 4))) dX8_step_157 rfl ?_
                  refine pf_8_3 dX8_step_158 kw_66 ?_
                  refine ev_sub hQ (fun S30 hS30 hQ => ?_)
                  refine ev_E.goal (pc' := 161) (L' := [some (ev_o 8 a), some (ev_i (j_at (S20.1 (a + 1)) 800 (S.1 a 4)))]) (K' := []) (S' := S30) ?_ rfl rfl rfl hS30
                  refine ev_aload_n (ev_o 8 a) dX8_step_161 rfl rfl ?_
                  refine ev_aload_n (ev_o 8 a) dX8_step_162 rfl rfl ?_
                  refine gf_8_4 dX8_step_163 kw_67 ?_
                  refine ev_ke ((((j_rk hS30 (Or.inr (by decide))).trans (j_rk hS29 (Or.inr (by decide)))).trans (j_rk hS20 (Or.inr (by decide)))).trans (j_rk hS19 (Or.inr (by decide)))) ?_
                  refine ev_iconst (1) dX8_step_166 rfl ?_
                  refine ev_iadd dX8_step_167 ?_
                  refine pf_8_5 dX8_step_168 kw_68 ?_
                  refine ev_sub hQ (fun S31 hS31 hQ => ?_)
                  refine ev_E.goal (pc' := 171) (L' := [some (ev_o 8 a), some (ev_i (j_at (S20.1 (a + 1)) 800 (S.1 a 4)))]) (K' := []) (S' := S31) ?_ rfl rfl rfl hS31
                  exact ev_return dX8_step_171 rfl hQ
                · replace hQ := hQ.1 c14
                  refine ev_iconst (3) dX8_step_148 rfl ?_
                  refine ev_goto 153 dX8_step_149 (by decide) ?_
                  refine pf_8_2 dX8_step_153 kw_65 ?_
                  refine ev_sub hQ (fun S32 hS32 hQ => ?_)
                  refine ev_E.goal (pc' := 156) (L' := [some (ev_o 8 a), some (ev_i (j_at (S20.1 (a + 1)) 800 (S.1 a 4)))]) (K' := []) (S' := S32) ?_ rfl rfl rfl hS32
                  refine ev_aload_n (ev_o 8 a) dX8_step_156 rfl rfl ?_
                  refine ev_iload_n ((j_at (S20.1 (a + 1)) 800 (S.1 a 4))) dX8_step_157 rfl ?_
                  refine pf_8_3 dX8_step_158 kw_66 ?_
                  refine ev_sub hQ (fun S33 hS33 hQ => ?_)
                  refine ev_E.goal (pc' := 161) (L' := [some (ev_o 8 a), some (ev_i (j_at (S20.1 (a + 1)) 800 (S.1 a 4)))]) (K' := []) (S' := S33) ?_ rfl rfl rfl hS33
                  refine ev_aload_n (ev_o 8 a) dX8_step_161 rfl rfl ?_
                  refine ev_aload_n (ev_o 8 a) dX8_step_162 rfl rfl ?_
                  refine gf_8_4 dX8_step_163 kw_67 ?_
                  refine ev_ke ((((j_rk hS33 (Or.inr (by decide))).trans (j_rk hS32 (Or.inr (by decide)))).trans (j_rk hS20 (Or.inr (by decide)))).trans (j_rk hS19 (Or.inr (by decide)))) ?_
                  refine ev_iconst (1) dX8_step_166 rfl ?_
                  refine ev_iadd dX8_step_167 ?_
                  refine pf_8_5 dX8_step_168 kw_68 ?_
                  refine ev_sub hQ (fun S34 hS34 hQ => ?_)
                  refine ev_E.goal (pc' := 171) (L' := [some (ev_o 8 a), some (ev_i (j_at (S20.1 (a + 1)) 800 (S.1 a 4)))]) (K' := []) (S' := S34) ?_ rfl rfl rfl hS34
                  exact ev_return dX8_step_171 rfl hQ
      · replace hQ := hQ.2 c9
        refine ev_aload_n (ev_o 8 a) dX8_step_93 rfl rfl ?_
        refine ev_iconst (0) dX8_step_94 rfl ?_
        refine pf_8_2 dX8_step_95 kw_65 ?_
        refine ev_sub hQ (fun S35 hS35 hQ => ?_)
        refine ev_E.goal (pc' := 98) (L' := [some (ev_o 8 a), some (ev_i (j_at (S20.1 (a + 1)) 800 (S.1 a 4)))]) (K' := []) (S' := S35) ?_ rfl rfl rfl hS35
        refine ev_goto 171 dX8_step_98 (by decide) ?_
        exact ev_return dX8_step_171 rfl hQ
set_option maxHeartbeats 4000000 in
set_option maxRecDepth 100000 in
theorem sg_X8_begin_0 {g : ev_G} {S : ev_S} {Q : ev_O → ev_S → Prop} (a : Nat) (hQ : ∀ S1 : ev_S, S1 = (ev_up S a 7 0) → (
    ∀ S2 : ev_S, S2 = (ev_up S1 a 8 (-1)) → (
      ∀ S3 : ev_S, S3 = (ev_up S2 a 5 0) → (
        ev_Cv g m_X8_step 3 0 [ev_o 8 a] S3 (fun o S4 => o = .inl none ∧ (
          Q (.inl none) S4)))))) : ev_Cv g m_X8_begin 4 0 [ev_o 8 a] S Q := by
  refine ev_enter (by decide) rfl rfl (Nat.le_of_ble_eq_true rfl) ?_
  show ev_E g m_X8_begin 4 0 0 [some (ev_o 8 a)] [] S Q
  refine ev_aload_n (ev_o 8 a) dX8_begin_0 rfl rfl ?_
  refine ev_iconst (0) dX8_begin_1 rfl ?_
  refine pf_8_7 dX8_begin_2 kw_70 ?_
  refine ev_sub hQ (fun S1 hS1 hQ => ?_)
  refine ev_E.goal (pc' := 5) (L' := [some (ev_o 8 a)]) (K' := []) (S' := S1) ?_ rfl rfl rfl hS1
  refine ev_aload_n (ev_o 8 a) dX8_begin_5 rfl rfl ?_
  refine ev_iconst (-1) dX8_begin_6 rfl ?_
  refine pf_8_8 dX8_begin_7 kw_71 ?_
  refine ev_sub hQ (fun S2 hS2 hQ => ?_)
  refine ev_E.goal (pc' := 10) (L' := [some (ev_o 8 a)]) (K' := []) (S' := S2) ?_ rfl rfl rfl hS2
  refine ev_aload_n (ev_o 8 a) dX8_begin_10 rfl rfl ?_
  refine ev_iconst (0) dX8_begin_11 rfl ?_
  refine pf_8_5 dX8_begin_12 kw_68 ?_
  refine ev_sub hQ (fun S3 hS3 hQ => ?_)
  refine ev_E.goal (pc' := 15) (L' := [some (ev_o 8 a)]) (K' := []) (S' := S3) ?_ rfl rfl rfl hS3
  refine ev_aload_n (ev_o 8 a) dX8_begin_15 rfl rfl ?_
  refine ev_cV mv_X8_step 3 0 8 [] [] dX8_begin_16 kw_399 rfl (by decide) rfl (by decide) (by decide) (Nat.le_of_ble_eq_true rfl) hQ ?_ rfl
  rintro o S4 ⟨rfl, hQ⟩
  show ev_E g m_X8_begin 4 0 19 [some (ev_o 8 a)] [] S4 Q
  exact ev_return dX8_begin_19 rfl hQ
set_option maxHeartbeats 4000000 in
set_option maxRecDepth 100000 in
theorem sg_J0_coder_7d493_0 {g : ev_G} {S : ev_S} {Q : ev_O → ev_S → Prop} (k : Nat) (hQ : Q (.inl (some (ev_i 0))) S) : ev_Cv g m_J0_coder_7d493 1 0 [ev_x 1 k] S Q := by
  refine ev_enter (by decide) rfl rfl (Nat.le_of_ble_eq_true rfl) ?_
  show ev_E g m_J0_coder_7d493 1 0 0 [some (ev_x 1 k)] [] S Q
  refine ev_compact dJ0_coder_7d493_0 kw_344 ?_
  refine ev_if_eq 13 dJ0_coder_7d493_3 (by decide) (fun h9 => absurd h9 (by decide : ¬ ((1 : Int32) = 0))) (fun _ => ?_)
  refine ev_aload_n (ev_x 1 k) dJ0_coder_7d493_6 rfl rfl ?_
  refine ev_coder dJ0_coder_7d493_7 kw_1881 ?_
  refine ev_goto 14 dJ0_coder_7d493_10 (by decide) ?_
  exact ev_ireturn .byte dJ0_coder_7d493_14 rfl rfl hQ
set_option maxHeartbeats 4000000 in
set_option maxRecDepth 100000 in
theorem sp_J0_coder_7d493 {g : ev_G} {S : ev_S} (k : Nat)  : ev_Fn g m_J0_coder_7d493 1 [ev_x 1 k] S (some (ev_i 0)) S := by
  intro Q hQ
  refine sg_J0_coder_7d493_0 k ?_
  exact hQ
set_option maxHeartbeats 4000000 in
set_option maxRecDepth 100000 in
theorem sg_J0_length_8abf5_0 {g : ev_G} {S : ev_S} {Q : ev_O → ev_S → Prop} (k : Nat) (hQ : Q (.inl (some (ev_i (j_ishr (Int32.ofNat (ev_le.getD k 0)) 0)))) S) : ev_Cv g m_J0_length_8abf5 2 0 [ev_x 1 k] S Q := by
  refine ev_enter (by decide) rfl rfl (Nat.le_of_ble_eq_true rfl) ?_
  show ev_E g m_J0_length_8abf5 2 0 0 [some (ev_x 1 k)] [] S Q
  refine ev_aload_n (ev_x 1 k) dJ0_length_8abf5_0 rfl rfl ?_
  refine ev_sval dJ0_length_8abf5_1 kw_1880 ?_
  refine ev_sblen dJ0_length_8abf5_4 ?_
  refine ev_aload_n (ev_x 1 k) dJ0_length_8abf5_5 rfl rfl ?_
  refine ev_fK mv_J0_coder_7d493 1 [] [ev_i (Int32.ofNat (ev_le.getD k 0))] dJ0_length_8abf5_6 kw_340 rfl (by decide) (Nat.le_of_ble_eq_true rfl) (sp_J0_coder_7d493 k) ?_ rfl
  refine ev_ishr dJ0_length_8abf5_9 ?_
  show ev_E g m_J0_length_8abf5 2 0 10 [some (ev_x 1 k)] [ev_i (j_ishr (Int32.ofNat (ev_le.getD k 0)) 0)] S Q
  exact ev_ireturn .int dJ0_length_8abf5_10 rfl rfl hQ
set_option maxHeartbeats 4000000 in
set_option maxRecDepth 100000 in
theorem sp_J0_length_8abf5 {g : ev_G} {S : ev_S} (k : Nat)  : ev_Fn g m_J0_length_8abf5 2 [ev_x 1 k] S (some (ev_i (j_ishr (Int32.ofNat (ev_le.getD k 0)) 0))) S := by
  intro Q hQ
  refine sg_J0_length_8abf5_0 k ?_
  exact hQ
set_option maxHeartbeats 4000000 in
set_option maxRecDepth 100000 in
theorem sg_J0_isLatin1_aae02_0 {g : ev_G} {S : ev_S} {Q : ev_O → ev_S → Prop} (k : Nat) (hQ : Q (.inl (some (ev_i 1))) S) : ev_Cv g m_J0_isLatin1_aae02 1 0 [ev_x 1 k] S Q := by
  refine ev_enter (by decide) rfl rfl (Nat.le_of_ble_eq_true rfl) ?_
  show ev_E g m_J0_isLatin1_aae02 1 0 0 [some (ev_x 1 k)] [] S Q
  refine ev_compact dJ0_isLatin1_aae02_0 kw_344 ?_
  refine ev_if_eq 17 dJ0_isLatin1_aae02_3 (by decide) (fun h9 => absurd h9 (by decide : ¬ ((1 : Int32) = 0))) (fun _ => ?_)
  refine ev_aload_n (ev_x 1 k) dJ0_isLatin1_aae02_6 rfl rfl ?_
  refine ev_coder dJ0_isLatin1_aae02_7 kw_1881 ?_
  refine ev_if_ne 17 dJ0_isLatin1_aae02_10 (by decide) (fun h9 => absurd (by decide : ((0 : Int32) = 0)) h9) (fun _ => ?_)
  refine ev_iconst (1) dJ0_isLatin1_aae02_13 rfl ?_
  refine ev_goto 18 dJ0_isLatin1_aae02_14 (by decide) ?_
  exact ev_ireturn .boolean dJ0_isLatin1_aae02_18 rfl rfl hQ
set_option maxHeartbeats 4000000 in
set_option maxRecDepth 100000 in
theorem sp_J0_isLatin1_aae02 {g : ev_G} {S : ev_S} (k : Nat)  : ev_Fn g m_J0_isLatin1_aae02 1 [ev_x 1 k] S (some (ev_i 1)) S := by
  intro Q hQ
  refine sg_J0_isLatin1_aae02_0 k ?_
  exact hQ
set_option maxHeartbeats 4000000 in
set_option maxRecDepth 100000 in
theorem sg_J3_checkIndex_8e157_0 {g : ev_G} {S : ev_S} {Q : ev_O → ev_S → Prop} (x0 : Int32) (x1 : Int32) (k2 : Nat) (hQ : (x0 < 0 → (
    (False) ∧ True)) ∧
  (¬ (x0 < 0) → (
    (x0 < x1 → (
      Q (.inl (some (ev_i x0))) S)) ∧
    (¬ (x0 < x1) → (
      (False) ∧ True))))) : ev_Cv g m_J3_checkIndex_8e157 1 0 [ev_i x0, ev_i x1, ev_x 3 k2] S Q := by
  refine ev_enter (by decide) rfl rfl (Nat.le_of_ble_eq_true rfl) ?_
  show ev_E g m_J3_checkIndex_8e157 1 0 0 [some (ev_i x0), some (ev_i x1), some (ev_x 3 k2)] [] S Q
  refine ev_iload_n (x0) dJ3_checkIndex_8e157_0 rfl ?_
  refine ev_if_lt 9 dJ3_checkIndex_8e157_1 (by decide) (fun c1 => ?_) (fun c1 => ?_)
  · replace hQ := hQ.1 c1
    exact hQ.1.elim
  · replace hQ := hQ.2 c1
    refine ev_iload_n (x0) dJ3_checkIndex_8e157_4 rfl ?_
    refine ev_iload_n (x1) dJ3_checkIndex_8e157_5 rfl ?_
    refine ev_icmp_lt 16 dJ3_checkIndex_8e157_6 (by decide) (fun c2 => ?_) (fun c2 => ?_)
    · replace hQ := hQ.1 c2
      refine ev_iload_n (x0) dJ3_checkIndex_8e157_16 rfl ?_
      exact ev_ireturn .int dJ3_checkIndex_8e157_17 rfl rfl hQ
    · replace hQ := hQ.2 c2
      exact hQ.1.elim
set_option maxHeartbeats 4000000 in
set_option maxRecDepth 100000 in
theorem sp_J3_checkIndex_8e157 {g : ev_G} {S : ev_S} (x0 : Int32) (x1 : Int32) (k2 : Nat) (q0 : (x0 < 0) → False) (q1 : ¬ (x0 < 0) → ¬ (x0 < x1) → False) : ev_Fn g m_J3_checkIndex_8e157 1 [ev_i x0, ev_i x1, ev_x 3 k2] S (some (ev_i x0)) S := by
  intro Q hQ
  refine sg_J3_checkIndex_8e157_0 x0 x1 k2 ?_
  refine ⟨fun c1 => ?_, fun c1 => ?_⟩
  · skip
    exact (q0 c1).elim
  · skip
    refine ⟨fun c2 => ?_, fun c2 => ?_⟩
    · skip
      exact hQ
    · skip
      exact (q1 c1 c2).elim
set_option maxHeartbeats 4000000 in
set_option maxRecDepth 100000 in
theorem sg_J0_checkIndex_df160_0 {g : ev_G} {S : ev_S} {Q : ev_O → ev_S → Prop} (x0 : Int32) (x1 : Int32) (hQ : ((x0 < 0) → False) ∧ (
    (¬ (x0 < 0) → ¬ (x0 < x1) → False) ∧ (
      Q (.inl none) S))) : ev_Cv g m_J0_checkIndex_df160 2 0 [ev_i x0, ev_i x1] S Q := by
  refine ev_enter (by decide) rfl rfl (Nat.le_of_ble_eq_true rfl) ?_
  show ev_E g m_J0_checkIndex_df160 2 0 0 [some (ev_i x0), some (ev_i x1)] [] S Q
  refine ev_iload_n (x0) dJ0_checkIndex_df160_0 rfl ?_
  refine ev_iload_n (x1) dJ0_checkIndex_df160_1 rfl ?_
  refine ev_form dJ0_checkIndex_df160_2 kw_360 ?_
  obtain ⟨h1, hQ⟩ := hQ
  obtain ⟨h2, hQ⟩ := hQ
  refine ev_fS ms_J3_checkIndex_8e157 1 [ev_i x0, ev_i x1, ev_x 3 0] [] dJ0_checkIndex_df160_5 kw_362 rfl (by decide) (Nat.le_of_ble_eq_true rfl) (sp_J3_checkIndex_8e157 x0 x1 0 h1 h2) ?_ rfl
  refine ev_pop dJ0_checkIndex_df160_8 rfl ?_
  exact ev_return dJ0_checkIndex_df160_9 rfl hQ
set_option maxHeartbeats 4000000 in
set_option maxRecDepth 100000 in
theorem sp_J0_checkIndex_df160 {g : ev_G} {S : ev_S} (x0 : Int32) (x1 : Int32) (q0 : (x0 < 0) → False) (q1 : ¬ (x0 < 0) → ¬ (x0 < x1) → False) : ev_Fn g m_J0_checkIndex_df160 2 [ev_i x0, ev_i x1] S none S := by
  intro Q hQ
  refine sg_J0_checkIndex_df160_0 x0 x1 ?_
  refine ⟨(q0), ?_⟩
  refine ⟨(q1), ?_⟩
  exact hQ
set_option maxHeartbeats 4000000 in
set_option maxRecDepth 100000 in
theorem sg_J1_charAt_3b067_0 {g : ev_G} {S : ev_S} {Q : ev_O → ev_S → Prop} (k0 : Nat) (x1 : Int32) (hQ : ((x1 < 0) → False) ∧ (
    (¬ (x1 < 0) → ¬ (x1 < (Int32.ofNat (ev_le.getD k0 0))) → False) ∧ (
      (vp_in x1 (ev_le.getD k0 0)) ∧ (
        (narrow .char (.int (j_i2c ((j_byte k0 x1) &&& 255))) = .int (j_i2c ((j_byte k0 x1) &&& 255))) ∧ (
          Q (.inl (some (ev_i (j_i2c ((j_byte k0 x1) &&& 255))))) S))))) : ev_Cv g m_J1_charAt_3b067 3 0 [ev_x 2 k0, ev_i x1] S Q := by
  refine ev_enter (by decide) rfl rfl (Nat.le_of_ble_eq_true rfl) ?_
  show ev_E g m_J1_charAt_3b067 3 0 0 [some (ev_x 2 k0), some (ev_i x1)] [] S Q
  refine ev_iload_n (x1) dJ1_charAt_3b067_0 rfl ?_
  refine ev_aload_n (ev_x 2 k0) dJ1_charAt_3b067_1 rfl rfl ?_
  refine ev_sblen dJ1_charAt_3b067_2 ?_
  obtain ⟨h1, hQ⟩ := hQ
  obtain ⟨h2, hQ⟩ := hQ
  refine ev_fSn ms_J0_checkIndex_df160 2 [ev_i x1, ev_i (Int32.ofNat (ev_le.getD k0 0))] [] dJ1_charAt_3b067_3 kw_357 rfl (by decide) (Nat.le_of_ble_eq_true rfl) (sp_J0_checkIndex_df160 x1 (Int32.ofNat (ev_le.getD k0 0)) h1 h2) ?_ rfl
  refine ev_aload_n (ev_x 2 k0) dJ1_charAt_3b067_6 rfl rfl ?_
  refine ev_iload_n (x1) dJ1_charAt_3b067_7 rfl ?_
  obtain ⟨h3, hQ⟩ := hQ
  refine ev_sbat dJ1_charAt_3b067_8 h3 ?_
  show ev_E g m_J1_charAt_3b067 3 0 9 [some (ev_x 2 k0), some (ev_i x1)] [ev_i (j_byte k0 x1)] S Q
  refine ev_sipush (255) dJ1_charAt_3b067_9 (by decide) ?_
  refine ev_iand dJ1_charAt_3b067_12 ?_
  refine ev_i2c dJ1_charAt_3b067_13 ?_
  obtain ⟨h4, hQ⟩ := hQ
  exact ev_ireturn .char dJ1_charAt_3b067_14 rfl h4 hQ
set_option maxHeartbeats 4000000 in
set_option maxRecDepth 100000 in
theorem sp_J1_charAt_3b067 {g : ev_G} {S : ev_S} (k0 : Nat) (x1 : Int32) (q0 : (x1 < 0) → False) (q1 : ¬ (x1 < 0) → ¬ (x1 < (Int32.ofNat (ev_le.getD k0 0))) → False) (q2 : vp_in x1 (ev_le.getD k0 0)) (q3 : narrow .char (.int (j_i2c ((j_byte k0 x1) &&& 255))) = .int (j_i2c ((j_byte k0 x1) &&& 255))) : ev_Fn g m_J1_charAt_3b067 3 [ev_x 2 k0, ev_i x1] S (some (ev_i (j_i2c ((j_byte k0 x1) &&& 255)))) S := by
  intro Q hQ
  refine sg_J1_charAt_3b067_0 k0 x1 ?_
  refine ⟨(q0), ?_⟩
  refine ⟨(q1), ?_⟩
  refine ⟨(q2), ?_⟩
  refine ⟨(q3), ?_⟩
  exact hQ
set_option maxHeartbeats 4000000 in
set_option maxRecDepth 100000 in
theorem sg_J0_charAt_5068e_0 {g : ev_G} {S : ev_S} {Q : ev_O → ev_S → Prop} (k : Nat) (x0 : Int32) (hQ : ((x0 < 0) → False) ∧ (
    (¬ (x0 < 0) → ¬ (x0 < (Int32.ofNat (ev_le.getD k 0))) → False) ∧ (
      (vp_in x0 (ev_le.getD k 0)) ∧ (
        (narrow .char (.int (j_i2c ((j_byte k x0) &&& 255))) = .int (j_i2c ((j_byte k x0) &&& 255))) ∧ (
          Q (.inl (some (ev_i (j_i2c ((j_byte k x0) &&& 255))))) S))))) : ev_Cv g m_J0_charAt_5068e 4 0 [ev_x 1 k, ev_i x0] S Q := by
  refine ev_enter (by decide) rfl rfl (Nat.le_of_ble_eq_true rfl) ?_
  show ev_E g m_J0_charAt_5068e 4 0 0 [some (ev_x 1 k), some (ev_i x0)] [] S Q
  refine ev_aload_n (ev_x 1 k) dJ0_charAt_5068e_0 rfl rfl ?_
  refine ev_fK mv_J0_isLatin1_aae02 1 [] [] dJ0_charAt_5068e_1 kw_350 rfl (by decide) (Nat.le_of_ble_eq_true rfl) (sp_J0_isLatin1_aae02 k) ?_ rfl
  refine ev_if_eq 16 dJ0_charAt_5068e_4 (by decide) (fun h9 => absurd h9 (by decide : ¬ ((1 : Int32) = 0))) (fun _ => ?_)
  refine ev_aload_n (ev_x 1 k) dJ0_charAt_5068e_7 rfl rfl ?_
  refine ev_sval dJ0_charAt_5068e_8 kw_1880 ?_
  refine ev_iload_n (x0) dJ0_charAt_5068e_11 rfl ?_
  obtain ⟨h1, hQ⟩ := hQ
  obtain ⟨h2, hQ⟩ := hQ
  obtain ⟨h3, hQ⟩ := hQ
  obtain ⟨h4, hQ⟩ := hQ
  refine ev_fS ms_J1_charAt_3b067 3 [ev_x 2 k, ev_i x0] [] dJ0_charAt_5068e_12 kw_354 rfl (by decide) (Nat.le_of_ble_eq_true rfl) (sp_J1_charAt_3b067 k x0 h1 h2 h3 h4) ?_ rfl
  exact ev_ireturn .char dJ0_charAt_5068e_15 rfl h4 hQ
set_option maxHeartbeats 4000000 in
set_option maxRecDepth 100000 in
theorem sp_J0_charAt_5068e {g : ev_G} {S : ev_S} (k : Nat) (x0 : Int32) (q0 : (x0 < 0) → False) (q1 : ¬ (x0 < 0) → ¬ (x0 < (Int32.ofNat (ev_le.getD k 0))) → False) (q2 : vp_in x0 (ev_le.getD k 0)) (q3 : narrow .char (.int (j_i2c ((j_byte k x0) &&& 255))) = .int (j_i2c ((j_byte k x0) &&& 255))) : ev_Fn g m_J0_charAt_5068e 4 [ev_x 1 k, ev_i x0] S (some (ev_i (j_i2c ((j_byte k x0) &&& 255)))) S := by
  intro Q hQ
  refine sg_J0_charAt_5068e_0 k x0 ?_
  refine ⟨(q0), ?_⟩
  refine ⟨(q1), ?_⟩
  refine ⟨(q2), ?_⟩
  refine ⟨(q3), ?_⟩
  exact hQ
set_option maxHeartbeats 4000000 in
set_option maxRecDepth 100000 in
theorem sg_X8_isWord_0 {g : ev_G} {S : ev_S} {Q : ev_O → ev_S → Prop} (a : Nat) (k0 : Nat) (hQ : ((S.1 a 7) = 0 → (
    ((S.1 a 2) = 1 → (
      (((S.1 a 5) - (S.1 a 4)) = (j_ishr (Int32.ofNat (ev_le.getD k0 0)) 0) → (
        ev_E g m_X8_isWord 5 0 35 [some (ev_o 8 a), some (ev_x 1 k0), some (ev_i 0)] [] S Q)) ∧
      (¬ (((S.1 a 5) - (S.1 a 4)) = (j_ishr (Int32.ofNat (ev_le.getD k0 0)) 0)) → (
        Q (.inl (some (ev_i 0))) S)))) ∧
    (¬ ((S.1 a 2) = 1) → (
      Q (.inl (some (ev_i 0))) S)))) ∧
  (¬ ((S.1 a 7) = 0) → (
    Q (.inl (some (ev_i 0))) S))) : ev_Cv g m_X8_isWord 5 0 [ev_o 8 a, ev_x 1 k0] S Q := by
  refine ev_enter (by decide) rfl rfl (Nat.le_of_ble_eq_true rfl) ?_
  show ev_E g m_X8_isWord 5 0 0 [some (ev_o 8 a), some (ev_x 1 k0), none] [] S Q
  refine ev_aload_n (ev_o 8 a) dX8_isWord_0 rfl rfl ?_
  refine gf_8_7 dX8_isWord_1 kw_70 ?_
  refine ev_if_ne 31 dX8_isWord_4 (by decide) (fun c1 => ?_) (fun c1 => ?_)
  · replace hQ := hQ.2 c1
    refine ev_iconst (0) dX8_isWord_31 rfl ?_
    exact ev_ireturn .boolean dX8_isWord_32 rfl rfl hQ
  · replace hQ := hQ.1 c1
    refine ev_aload_n (ev_o 8 a) dX8_isWord_7 rfl rfl ?_
    refine gf_8_2 dX8_isWord_8 kw_65 ?_
    refine ev_iconst (1) dX8_isWord_11 rfl ?_
    refine ev_icmp_ne 31 dX8_isWord_12 (by decide) (fun c2 => ?_) (fun c2 => ?_)
    · replace hQ := hQ.2 c2
      refine ev_iconst (0) dX8_isWord_31 rfl ?_
      exact ev_ireturn .boolean dX8_isWord_32 rfl rfl hQ
    · replace hQ := hQ.1 c2
      refine ev_aload_n (ev_o 8 a) dX8_isWord_15 rfl rfl ?_
      refine gf_8_5 dX8_isWord_16 kw_68 ?_
      refine ev_aload_n (ev_o 8 a) dX8_isWord_19 rfl rfl ?_
      refine gf_8_4 dX8_isWord_20 kw_67 ?_
      refine ev_isub dX8_isWord_23 ?_
      refine ev_aload_n (ev_x 1 k0) dX8_isWord_24 rfl rfl ?_
      refine ev_fK mv_J0_length_8abf5 2 [] [ev_i ((S.1 a 5) - (S.1 a 4))] dX8_isWord_25 kw_435 rfl (by decide) (Nat.le_of_ble_eq_true rfl) (sp_J0_length_8abf5 k0) ?_ rfl
      refine ev_icmp_eq 33 dX8_isWord_28 (by decide) (fun c3 => ?_) (fun c3 => ?_)
      · replace hQ := hQ.1 c3
        refine ev_iconst (0) dX8_isWord_33 rfl ?_
        refine ev_istore_n dX8_isWord_34 (Nat.le_of_ble_eq_true rfl) (ev_hw rfl) ?_
        show ev_E g m_X8_isWord 5 0 35 [some (ev_o 8 a), some (ev_x 1 k0), some (ev_i 0)] [] S Q
        exact hQ
      · replace hQ := hQ.2 c3
        refine ev_iconst (0) dX8_isWord_31 rfl ?_
        exact ev_ireturn .boolean dX8_isWord_32 rfl rfl hQ
set_option maxHeartbeats 4000000 in
set_option maxRecDepth 100000 in
theorem sg_X8_isWord_35 {g : ev_G} {S : ev_S} {Q : ev_O → ev_S → Prop} (a : Nat) (k0 : Nat) (u2 : Int32) (hQ : ((j_ishr (Int32.ofNat (ev_le.getD k0 0)) 0) ≤ u2 → (
    Q (.inl (some (ev_i 1))) S)) ∧
  (¬ ((j_ishr (Int32.ofNat (ev_le.getD k0 0)) 0) ≤ u2) → (
    ((u2 < 0) → False) ∧ (
      (¬ (u2 < 0) → ¬ (u2 < (Int32.ofNat (ev_le.getD k0 0))) → False) ∧ (
        (vp_in u2 (ev_le.getD k0 0)) ∧ (
          (narrow .char (.int (j_i2c ((j_byte k0 u2) &&& 255))) = .int (j_i2c ((j_byte k0 u2) &&& 255))) ∧ (
            ((j_at (S.1 (a + 1)) 800 ((S.1 a 4) + u2)) = (j_i2c ((j_byte k0 u2) &&& 255)) → (
              ev_E g m_X8_isWord 5 0 35 [some (ev_o 8 a), some (ev_x 1 k0), some (ev_i (u2 + 1))] [] S Q)) ∧
            (¬ ((j_at (S.1 (a + 1)) 800 ((S.1 a 4) + u2)) = (j_i2c ((j_byte k0 u2) &&& 255))) → (
              Q (.inl (some (ev_i 0))) S))))))))) : ev_E g m_X8_isWord 5 0 35 [some (ev_o 8 a), some (ev_x 1 k0), some (ev_i u2)] [] S Q := by
  refine ev_iload_n (u2) dX8_isWord_35 rfl ?_
  refine ev_aload_n (ev_x 1 k0) dX8_isWord_36 rfl rfl ?_
  refine ev_fK mv_J0_length_8abf5 2 [] [ev_i u2] dX8_isWord_37 kw_435 rfl (by decide) (Nat.le_of_ble_eq_true rfl) (sp_J0_length_8abf5 k0) ?_ rfl
  refine ev_icmp_ge 72 dX8_isWord_40 (by decide) (fun c1 => ?_) (fun c1 => ?_)
  · replace hQ := hQ.1 c1
    refine ev_iconst (1) dX8_isWord_72 rfl ?_
    exact ev_ireturn .boolean dX8_isWord_73 rfl rfl hQ
  · replace hQ := hQ.2 c1
    refine ev_aload_n (ev_o 8 a) dX8_isWord_43 rfl rfl ?_
    refine gf_8_0 dX8_isWord_44 kw_63 ?_
    refine ev_aload_n (ev_o 8 a) dX8_isWord_47 rfl rfl ?_
    refine gf_8_4 dX8_isWord_48 kw_67 ?_
    refine ev_iload_n (u2) dX8_isWord_51 rfl ?_
    refine ev_iadd dX8_isWord_52 ?_
    refine ev_fN ms_X9_at 1 [ev_y 800 (a + 1), ev_i ((S.1 a 4) + u2)] [] dX8_isWord_53 (List.mem_of_getElem? (i := 10) rfl) rfl (by decide) (Nat.le_of_ble_eq_true rfl) (sp_X9_at 800 (a + 1) ((S.1 a 4) + u2)) ?_ rfl
    refine ev_aload_n (ev_x 1 k0) dX8_isWord_56 rfl rfl ?_
    refine ev_iload_n (u2) dX8_isWord_57 rfl ?_
    obtain ⟨h1, hQ⟩ := hQ
    obtain ⟨h2, hQ⟩ := hQ
    obtain ⟨h3, hQ⟩ := hQ
    obtain ⟨h4, hQ⟩ := hQ
    refine ev_fK mv_J0_charAt_5068e 4 [ev_i u2] [ev_i (j_at (S.1 (a + 1)) 800 ((S.1 a 4) + u2))] dX8_isWord_58 kw_436 rfl (by decide) (Nat.le_of_ble_eq_true rfl) (sp_J0_charAt_5068e k0 u2 h1 h2 h3 h4) ?_ rfl
    refine ev_icmp_eq 66 dX8_isWord_61 (by decide) (fun c2 => ?_) (fun c2 => ?_)
    · replace hQ := hQ.1 c2
      refine ev_iinc u2 (1) dX8_isWord_66 rfl (by decide) (ev_hw rfl) ?_
      show ev_E g m_X8_isWord 5 0 69 [some (ev_o 8 a), some (ev_x 1 k0), some (ev_i (u2 + 1))] [] S Q
      refine ev_goto 35 dX8_isWord_69 (by decide) ?_
      exact hQ
    · replace hQ := hQ.2 c2
      refine ev_iconst (0) dX8_isWord_64 rfl ?_
      exact ev_ireturn .boolean dX8_isWord_65 rfl rfl hQ
set_option maxHeartbeats 4000000 in
set_option maxRecDepth 100000 in
theorem sg_X8_fail_0 {g : ev_G} {S : ev_S} {Q : ev_O → ev_S → Prop} (a : Nat) (x0 : Int32) (hQ : ((S.1 a 7) = 0 → (
    ∀ S1 : ev_S, S1 = (ev_up S a 7 x0) → (
      ∀ S2 : ev_S, S2 = (ev_up S1 a 8 (S.1 a 4)) → (
        Q (.inl none) S2)))) ∧
  (¬ ((S.1 a 7) = 0) → (
    Q (.inl none) S))) : ev_Cv g m_X8_fail 1 0 [ev_o 8 a, ev_i x0] S Q := by
  refine ev_enter (by decide) rfl rfl (Nat.le_of_ble_eq_true rfl) ?_
  show ev_E g m_X8_fail 1 0 0 [some (ev_o 8 a), some (ev_i x0)] [] S Q
  refine ev_aload_n (ev_o 8 a) dX8_fail_0 rfl rfl ?_
  refine gf_8_7 dX8_fail_1 kw_70 ?_
  refine ev_if_ne 20 dX8_fail_4 (by decide) (fun c1 => ?_) (fun c1 => ?_)
  · replace hQ := hQ.2 c1
    exact ev_return dX8_fail_20 rfl hQ
  · replace hQ := hQ.1 c1
    refine ev_aload_n (ev_o 8 a) dX8_fail_7 rfl rfl ?_
    refine ev_iload_n (x0) dX8_fail_8 rfl ?_
    refine pf_8_7 dX8_fail_9 kw_70 ?_
    refine ev_sub hQ (fun S1 hS1 hQ => ?_)
    refine ev_E.goal (pc' := 12) (L' := [some (ev_o 8 a), some (ev_i x0)]) (K' := []) (S' := S1) ?_ rfl rfl rfl hS1
    refine ev_aload_n (ev_o 8 a) dX8_fail_12 rfl rfl ?_
    refine ev_aload_n (ev_o 8 a) dX8_fail_13 rfl rfl ?_
    refine gf_8_4 dX8_fail_14 kw_67 ?_
    refine ev_ke (j_rk hS1 (Or.inr (by decide))) ?_
    refine pf_8_8 dX8_fail_17 kw_71 ?_
    refine ev_sub hQ (fun S2 hS2 hQ => ?_)
    refine ev_E.goal (pc' := 20) (L' := [some (ev_o 8 a), some (ev_i x0)]) (K' := []) (S' := S2) ?_ rfl rfl rfl hS2
    exact ev_return dX8_fail_20 rfl hQ
set_option maxHeartbeats 4000000 in
set_option maxRecDepth 100000 in
theorem sg_X8_expectWord_0 {g : ev_G} {S : ev_S} {Q : ev_O → ev_S → Prop} (a : Nat) (k0 : Nat) (hQ : ev_Cv g m_X8_isWord 5 0 [ev_o 8 a, ev_x 1 k0] S (fun o S1 => ∃ v1_ : Bool, o = .inl (some (ev_i (if v1_ = true then 1 else 0))) ∧ (
    (v1_ = true → (
      ev_Cv g m_X8_step 3 0 [ev_o 8 a] S1 (fun o S2 => o = .inl none ∧ (
        Q (.inl none) S2)))) ∧
    (¬ (v1_ = true) → (
      ev_Cv g m_X8_fail 1 0 [ev_o 8 a, ev_i 1] S1 (fun o S3 => o = .inl none ∧ (
        Q (.inl none) S3))))))) : ev_Cv g m_X8_expectWord 6 0 [ev_o 8 a, ev_x 1 k0] S Q := by
  refine ev_enter (by decide) rfl rfl (Nat.le_of_ble_eq_true rfl) ?_
  show ev_E g m_X8_expectWord 6 0 0 [some (ev_o 8 a), some (ev_x 1 k0)] [] S Q
  refine ev_aload_n (ev_o 8 a) dX8_expectWord_0 rfl rfl ?_
  refine ev_aload_n (ev_x 1 k0) dX8_expectWord_1 rfl rfl ?_
  refine ev_cV mv_X8_isWord 5 0 8 [ev_x 1 k0] [] dX8_expectWord_2 kw_431 rfl (by decide) rfl (by decide) (by decide) (Nat.le_of_ble_eq_true rfl) hQ ?_ rfl
  rintro o S1 ⟨v1_, rfl, hQ⟩
  show ev_E g m_X8_expectWord 6 0 5 [some (ev_o 8 a), some (ev_x 1 k0)] [ev_i (if v1_ = true then 1 else 0)] S1 Q
  by_cases c1 : v1_ = true
  · rw [if_pos c1]
    replace hQ := hQ.1 c1
    refine ev_if_eq 15 dX8_expectWord_5 (by decide) (fun h9 => absurd h9 (by decide : ¬ ((1 : Int32) = 0))) (fun _ => ?_)
    refine ev_aload_n (ev_o 8 a) dX8_expectWord_8 rfl rfl ?_
    refine ev_cV mv_X8_step 3 0 8 [] [] dX8_expectWord_9 kw_399 rfl (by decide) rfl (by decide) (by decide) (Nat.le_of_ble_eq_true rfl) hQ ?_ rfl
    rintro o S2 ⟨rfl, hQ⟩
    show ev_E g m_X8_expectWord 6 0 12 [some (ev_o 8 a), some (ev_x 1 k0)] [] S2 Q
    refine ev_goto 20 dX8_expectWord_12 (by decide) ?_
    exact ev_return dX8_expectWord_20 rfl hQ
  · rw [if_neg c1]
    replace hQ := hQ.2 c1
    refine ev_if_eq 15 dX8_expectWord_5 (by decide) (fun _ => ?_) (fun h9 => absurd (by decide : ((0 : Int32) = 0)) h9)
    refine ev_aload_n (ev_o 8 a) dX8_expectWord_15 rfl rfl ?_
    refine ev_iconst (1) dX8_expectWord_16 rfl ?_
    refine ev_cV mv_X8_fail 1 0 8 [ev_i 1] [] dX8_expectWord_17 kw_437 rfl (by decide) rfl (by decide) (by decide) (Nat.le_of_ble_eq_true rfl) hQ ?_ rfl
    rintro o S3 ⟨rfl, hQ⟩
    show ev_E g m_X8_expectWord 6 0 20 [some (ev_o 8 a), some (ev_x 1 k0)] [] S3 Q
    exact ev_return dX8_expectWord_20 rfl hQ
set_option maxHeartbeats 4000000 in
set_option maxRecDepth 100000 in
theorem sg_X8_number_0 {g : ev_G} {S : ev_S} {Q : ev_O → ev_S → Prop} (a : Nat) (x0 : Int32) (x1 : Int32) (hQ : ((S.1 a 2) = 2 → (
    ((S.1 a 3) < x0 → (
      ev_Cv g m_X8_fail 1 0 [ev_o 8 a, ev_i 2] S (fun o S1 => o = .inl none ∧ (
        ((S1.1 a 7) = 0 → (
          ev_Cv g m_X8_step 3 0 [ev_o 8 a] S1 (fun o S2 => o = .inl none ∧ (
            Q (.inl (some (ev_i (S1.1 a 3)))) S2)))) ∧
        (¬ ((S1.1 a 7) = 0) → (
          Q (.inl (some (ev_i x0))) S1)))))) ∧
    (¬ ((S.1 a 3) < x0) → (
      ((S.1 a 3) ≤ x1 → (
        ((S.1 a 7) = 0 → (
          ev_Cv g m_X8_step 3 0 [ev_o 8 a] S (fun o S3 => o = .inl none ∧ (
            Q (.inl (some (ev_i (S.1 a 3)))) S3)))) ∧
        (¬ ((S.1 a 7) = 0) → (
          Q (.inl (some (ev_i x0))) S)))) ∧
      (¬ ((S.1 a 3) ≤ x1) → (
        ev_Cv g m_X8_fail 1 0 [ev_o 8 a, ev_i 2] S (fun o S4 => o = .inl none ∧ (
          ((S4.1 a 7) = 0 → (
            ev_Cv g m_X8_step 3 0 [ev_o 8 a] S4 (fun o S5 => o = .inl none ∧ (
              Q (.inl (some (ev_i (S4.1 a 3)))) S5)))) ∧
          (¬ ((S4.1 a 7) = 0) → (
            Q (.inl (some (ev_i x0))) S4)))))))))) ∧
  (¬ ((S.1 a 2) = 2) → (
    ev_Cv g m_X8_fail 1 0 [ev_o 8 a, ev_i 1] S (fun o S6 => o = .inl none ∧ (
      ((S6.1 a 7) = 0 → (
        ev_Cv g m_X8_step 3 0 [ev_o 8 a] S6 (fun o S7 => o = .inl none ∧ (
          Q (.inl (some (ev_i (S6.1 a 3)))) S7)))) ∧
      (¬ ((S6.1 a 7) = 0) → (
        Q (.inl (some (ev_i x0))) S6))))))) : ev_Cv g m_X8_number 4 0 [ev_o 8 a, ev_i x0, ev_i x1] S Q := by
  refine ev_enter (by decide) rfl rfl (Nat.le_of_ble_eq_true rfl) ?_
  show ev_E g m_X8_number 4 0 0 [some (ev_o 8 a), some (ev_i x0), some (ev_i x1), none] [] S Q
  refine ev_aload_n (ev_o 8 a) dX8_number_0 rfl rfl ?_
  refine gf_8_2 dX8_number_1 kw_65 ?_
  refine ev_iconst (2) dX8_number_4 rfl ?_
  refine ev_icmp_eq 16 dX8_number_5 (by decide) (fun c1 => ?_) (fun c1 => ?_)
  · replace hQ := hQ.1 c1
    refine ev_aload_n (ev_o 8 a) dX8_number_16 rfl rfl ?_
    refine gf_8_3 dX8_number_17 kw_66 ?_
    refine ev_iload_n (x0) dX8_number_20 rfl ?_
    refine ev_icmp_lt 32 dX8_number_21 (by decide) (fun c2 => ?_) (fun c2 => ?_)
    · replace hQ := hQ.1 c2
      refine ev_aload_n (ev_o 8 a) dX8_number_32 rfl rfl ?_
      refine ev_iconst (2) dX8_number_33 rfl ?_
      refine ev_cV mv_X8_fail 1 0 8 [ev_i 2] [] dX8_number_34 kw_437 rfl (by decide) rfl (by decide) (by decide) (Nat.le_of_ble_eq_true rfl) hQ ?_ rfl
      rintro o S1 ⟨rfl, hQ⟩
      show ev_E g m_X8_number 4 0 37 [some (ev_o 8 a), some (ev_i x0), some (ev_i x1), none] [] S1 Q
      refine ev_aload_n (ev_o 8 a) dX8_number_37 rfl rfl ?_
      refine gf_8_7 dX8_number_38 kw_70 ?_
      refine ev_if_eq 46 dX8_number_41 (by decide) (fun c3 => ?_) (fun c3 => ?_)
      · replace hQ := hQ.1 c3
        refine ev_aload_n (ev_o 8 a) dX8_number_46 rfl rfl ?_
        refine gf_8_3 dX8_number_47 kw_66 ?_
        refine ev_istore_n dX8_number_50 (Nat.le_of_ble_eq_true rfl) (ev_hw rfl) ?_
        show ev_E g m_X8_number 4 0 51 [some (ev_o 8 a), some (ev_i x0), some (ev_i x1), some (ev_i (S1.1 a 3))] [] S1 Q
        refine ev_aload_n (ev_o 8 a) dX8_number_51 rfl rfl ?_
        refine ev_cV mv_X8_step 3 0 8 [] [] dX8_number_52 kw_399 rfl (by decide) rfl (by decide) (by decide) (Nat.le_of_ble_eq_true rfl) hQ ?_ rfl
        rintro o S2 ⟨rfl, hQ⟩
        show ev_E g m_X8_number 4 0 55 [some (ev_o 8 a), some (ev_i x0), some (ev_i x1), some (ev_i (S1.1 a 3))] [] S2 Q
        refine ev_iload_n ((S1.1 a 3)) dX8_number_55 rfl ?_
        exact ev_ireturn .int dX8_number_56 rfl rfl hQ
      · replace hQ := hQ.2 c3
        refine ev_iload_n (x0) dX8_number_44 rfl ?_
        exact ev_ireturn .int dX8_number_45 rfl rfl hQ
    · replace hQ := hQ.2 c2
      refine ev_aload_n (ev_o 8 a) dX8_number_24 rfl rfl ?_
      refine gf_8_3 dX8_number_25 kw_66 ?_
      refine ev_iload_n (x1) dX8_number_28 rfl ?_
      refine ev_icmp_le 37 dX8_number_29 (by decide) (fun c4 => ?_) (fun c4 => ?_)
      · replace hQ := hQ.1 c4
        refine ev_aload_n (ev_o 8 a) dX8_number_37 rfl rfl ?_
        refine gf_8_7 dX8_number_38 kw_70 ?_
        refine ev_if_eq 46 dX8_number_41 (by decide) (fun c5 => ?_) (fun c5 => ?_)
        · replace hQ := hQ.1 c5
          refine ev_aload_n (ev_o 8 a) dX8_number_46 rfl rfl ?_
          refine gf_8_3 dX8_number_47 kw_66 ?_
          refine ev_istore_n dX8_number_50 (Nat.le_of_ble_eq_true rfl) (ev_hw rfl) ?_
          show ev_E g m_X8_number 4 0 51 [some (ev_o 8 a), some (ev_i x0), some (ev_i x1), some (ev_i (S.1 a 3))] [] S Q
          refine ev_aload_n (ev_o 8 a) dX8_number_51 rfl rfl ?_
          refine ev_cV mv_X8_step 3 0 8 [] [] dX8_number_52 kw_399 rfl (by decide) rfl (by decide) (by decide) (Nat.le_of_ble_eq_true rfl) hQ ?_ rfl
          rintro o S3 ⟨rfl, hQ⟩
          show ev_E g m_X8_number 4 0 55 [some (ev_o 8 a), some (ev_i x0), some (ev_i x1), some (ev_i (S.1 a 3))] [] S3 Q
          refine ev_iload_n ((S.1 a 3)) dX8_number_55 rfl ?_
          exact ev_ireturn .int dX8_number_56 rfl rfl hQ
        · replace hQ := hQ.2 c5
          refine ev_iload_n (x0) dX8_number_44 rfl ?_
          exact ev_ireturn .int dX8_number_45 rfl rfl hQ
      · replace hQ := hQ.2 c4
        refine ev_aload_n (ev_o 8 a) dX8_number_32 rfl rfl ?_
        refine ev_iconst (2) dX8_number_33 rfl ?_
        refine ev_cV mv_X8_fail 1 0 8 [ev_i 2] [] dX8_number_34 kw_437 rfl (by decide) rfl (by decide) (by decide) (Nat.le_of_ble_eq_true rfl) hQ ?_ rfl
        rintro o S4 ⟨rfl, hQ⟩
        show ev_E g m_X8_number 4 0 37 [some (ev_o 8 a), some (ev_i x0), some (ev_i x1), none] [] S4 Q
        refine ev_aload_n (ev_o 8 a) dX8_number_37 rfl rfl ?_
        refine gf_8_7 dX8_number_38 kw_70 ?_
        refine ev_if_eq 46 dX8_number_41 (by decide) (fun c6 => ?_) (fun c6 => ?_)
        · replace hQ := hQ.1 c6
          refine ev_aload_n (ev_o 8 a) dX8_number_46 rfl rfl ?_
          refine gf_8_3 dX8_number_47 kw_66 ?_
          refine ev_istore_n dX8_number_50 (Nat.le_of_ble_eq_true rfl) (ev_hw rfl) ?_
          show ev_E g m_X8_number 4 0 51 [some (ev_o 8 a), some (ev_i x0), some (ev_i x1), some (ev_i (S4.1 a 3))] [] S4 Q
          refine ev_aload_n (ev_o 8 a) dX8_number_51 rfl rfl ?_
          refine ev_cV mv_X8_step 3 0 8 [] [] dX8_number_52 kw_399 rfl (by decide) rfl (by decide) (by decide) (Nat.le_of_ble_eq_true rfl) hQ ?_ rfl
          rintro o S5 ⟨rfl, hQ⟩
          show ev_E g m_X8_number 4 0 55 [some (ev_o 8 a), some (ev_i x0), some (ev_i x1), some (ev_i (S4.1 a 3))] [] S5 Q
          refine ev_iload_n ((S4.1 a 3)) dX8_number_55 rfl ?_
          exact ev_ireturn .int dX8_number_56 rfl rfl hQ
        · replace hQ := hQ.2 c6
          refine ev_iload_n (x0) dX8_number_44 rfl ?_
          exact ev_ireturn .int dX8_number_45 rfl rfl hQ
  · replace hQ := hQ.2 c1
    refine ev_aload_n (ev_o 8 a) dX8_number_8 rfl rfl ?_
    refine ev_iconst (1) dX8_number_9 rfl ?_
    refine ev_cV mv_X8_fail 1 0 8 [ev_i 1] [] dX8_number_10 kw_437 rfl (by decide) rfl (by decide) (by decide) (Nat.le_of_ble_eq_true rfl) hQ ?_ rfl
    rintro o S6 ⟨rfl, hQ⟩
    show ev_E g m_X8_number 4 0 13 [some (ev_o 8 a), some (ev_i x0), some (ev_i x1), none] [] S6 Q
    refine ev_goto 37 dX8_number_13 (by decide) ?_
    refine ev_aload_n (ev_o 8 a) dX8_number_37 rfl rfl ?_
    refine gf_8_7 dX8_number_38 kw_70 ?_
    refine ev_if_eq 46 dX8_number_41 (by decide) (fun c7 => ?_) (fun c7 => ?_)
    · replace hQ := hQ.1 c7
      refine ev_aload_n (ev_o 8 a) dX8_number_46 rfl rfl ?_
      refine gf_8_3 dX8_number_47 kw_66 ?_
      refine ev_istore_n dX8_number_50 (Nat.le_of_ble_eq_true rfl) (ev_hw rfl) ?_
      show ev_E g m_X8_number 4 0 51 [some (ev_o 8 a), some (ev_i x0), some (ev_i x1), some (ev_i (S6.1 a 3))] [] S6 Q
      refine ev_aload_n (ev_o 8 a) dX8_number_51 rfl rfl ?_
      refine ev_cV mv_X8_step 3 0 8 [] [] dX8_number_52 kw_399 rfl (by decide) rfl (by decide) (by decide) (Nat.le_of_ble_eq_true rfl) hQ ?_ rfl
      rintro o S7 ⟨rfl, hQ⟩
      show ev_E g m_X8_number 4 0 55 [some (ev_o 8 a), some (ev_i x0), some (ev_i x1), some (ev_i (S6.1 a 3))] [] S7 Q
      refine ev_iload_n ((S6.1 a 3)) dX8_number_55 rfl ?_
      exact ev_ireturn .int dX8_number_56 rfl rfl hQ
    · replace hQ := hQ.2 c7
      refine ev_iload_n (x0) dX8_number_44 rfl ?_
      exact ev_ireturn .int dX8_number_45 rfl rfl hQ
set_option maxHeartbeats 4000000 in
set_option maxRecDepth 100000 in
theorem sg_X8_isSign_0 {g : ev_G} {S : ev_S} {Q : ev_O → ev_S → Prop} (a : Nat) (x0 : Int32) (hQ : ((S.1 a 7) = 0 → (
    ((S.1 a 2) = 3 → (
      ((S.1 a 3) = x0 → (
        Q (.inl (some (ev_i 1))) S)) ∧
      (¬ ((S.1 a 3) = x0) → (
        Q (.inl (some (ev_i 0))) S)))) ∧
    (¬ ((S.1 a 2) = 3) → (
      Q (.inl (some (ev_i 0))) S)))) ∧
  (¬ ((S.1 a 7) = 0) → (
    Q (.inl (some (ev_i 0))) S))) : ev_Cv g m_X8_isSign 1 0 [ev_o 8 a, ev_i x0] S Q := by
  refine ev_enter (by decide) rfl rfl (Nat.le_of_ble_eq_true rfl) ?_
  show ev_E g m_X8_isSign 1 0 0 [some (ev_o 8 a), some (ev_i x0)] [] S Q
  refine ev_aload_n (ev_o 8 a) dX8_isSign_0 rfl rfl ?_
  refine gf_8_7 dX8_isSign_1 kw_70 ?_
  refine ev_if_ne 27 dX8_isSign_4 (by decide) (fun c1 => ?_) (fun c1 => ?_)
  · replace hQ := hQ.2 c1
    refine ev_iconst (0) dX8_isSign_27 rfl ?_
    exact ev_ireturn .boolean dX8_isSign_28 rfl rfl hQ
  · replace hQ := hQ.1 c1
    refine ev_aload_n (ev_o 8 a) dX8_isSign_7 rfl rfl ?_
    refine gf_8_2 dX8_isSign_8 kw_65 ?_
    refine ev_iconst (3) dX8_isSign_11 rfl ?_
    refine ev_icmp_ne 27 dX8_isSign_12 (by decide) (fun c2 => ?_) (fun c2 => ?_)
    · replace hQ := hQ.2 c2
      refine ev_iconst (0) dX8_isSign_27 rfl ?_
      exact ev_ireturn .boolean dX8_isSign_28 rfl rfl hQ
    · replace hQ := hQ.1 c2
      refine ev_aload_n (ev_o 8 a) dX8_isSign_15 rfl rfl ?_
      refine gf_8_3 dX8_isSign_16 kw_66 ?_
      refine ev_iload_n (x0) dX8_isSign_19 rfl ?_
      refine ev_icmp_ne 27 dX8_isSign_20 (by decide) (fun c3 => ?_) (fun c3 => ?_)
      · replace hQ := hQ.2 c3
        refine ev_iconst (0) dX8_isSign_27 rfl ?_
        exact ev_ireturn .boolean dX8_isSign_28 rfl rfl hQ
      · replace hQ := hQ.1 c3
        refine ev_iconst (1) dX8_isSign_23 rfl ?_
        refine ev_goto 28 dX8_isSign_24 (by decide) ?_
        exact ev_ireturn .boolean dX8_isSign_28 rfl rfl hQ
def t_X8_isSign (S : ev_S) (a : Nat) (x0 : Int32) : Bool := if (S.1 a 7) = 0 then (if (S.1 a 2) = 3 then (if (S.1 a 3) = x0 then (true) else (false)) else (false)) else (false)
set_option maxHeartbeats 4000000 in
set_option maxRecDepth 100000 in
theorem sp_X8_isSign {g : ev_G} {S : ev_S} (a : Nat) (x0 : Int32)  : ev_Fn g m_X8_isSign 1 [ev_o 8 a, ev_i x0] S (some (ev_i (if (t_X8_isSign S a x0) = true then 1 else 0))) S := by
  intro Q hQ
  refine sg_X8_isSign_0 a x0 ?_
  unfold t_X8_isSign at hQ
  refine ⟨fun c1 => ?_, fun c1 => ?_⟩
  · rw [if_pos c1] at hQ
    refine ⟨fun c2 => ?_, fun c2 => ?_⟩
    · rw [if_pos c2] at hQ
      refine ⟨fun c3 => ?_, fun c3 => ?_⟩
      · rw [if_pos c3] at hQ
        exact hQ
      · rw [if_neg c3] at hQ
        exact hQ
    · rw [if_neg c2] at hQ
      exact hQ
  · rw [if_neg c1] at hQ
    exact hQ
set_option maxHeartbeats 4000000 in
set_option maxRecDepth 100000 in
theorem sg_X8_expectSign_0 {g : ev_G} {S : ev_S} {Q : ev_O → ev_S → Prop} (a : Nat) (x0 : Int32) (hQ : ((t_X8_isSign S a x0) = true → (
    ev_Cv g m_X8_step 3 0 [ev_o 8 a] S (fun o S1 => o = .inl none ∧ (
      Q (.inl none) S1)))) ∧
  (¬ ((t_X8_isSign S a x0) = true) → (
    ev_Cv g m_X8_fail 1 0 [ev_o 8 a, ev_i 1] S (fun o S2 => o = .inl none ∧ (
      Q (.inl none) S2))))) : ev_Cv g m_X8_expectSign 4 0 [ev_o 8 a, ev_i x0] S Q := by
  refine ev_enter (by decide) rfl rfl (Nat.le_of_ble_eq_true rfl) ?_
  show ev_E g m_X8_expectSign 4 0 0 [some (ev_o 8 a), some (ev_i x0)] [] S Q
  refine ev_aload_n (ev_o 8 a) dX8_expectSign_0 rfl rfl ?_
  refine ev_iload_n (x0) dX8_expectSign_1 rfl ?_
  refine ev_fV mv_X8_isSign 1 8 [ev_i x0] [] dX8_expectSign_2 kw_449 rfl (by decide) rfl (by decide) (Nat.le_of_ble_eq_true rfl) (sp_X8_isSign a x0) ?_ rfl
  by_cases c1 : (t_X8_isSign S a x0) = true
  · rw [if_pos c1]
    replace hQ := hQ.1 c1
    refine ev_if_eq 15 dX8_expectSign_5 (by decide) (fun h9 => absurd h9 (by decide : ¬ ((1 : Int32) = 0))) (fun _ => ?_)
    refine ev_aload_n (ev_o 8 a) dX8_expectSign_8 rfl rfl ?_
    refine ev_cV mv_X8_step 3 0 8 [] [] dX8_expectSign_9 kw_399 rfl (by decide) rfl (by decide) (by decide) (Nat.le_of_ble_eq_true rfl) hQ ?_ rfl
    rintro o S1 ⟨rfl, hQ⟩
    show ev_E g m_X8_expectSign 4 0 12 [some (ev_o 8 a), some (ev_i x0)] [] S1 Q
    refine ev_goto 20 dX8_expectSign_12 (by decide) ?_
    exact ev_return dX8_expectSign_20 rfl hQ
  · rw [if_neg c1]
    replace hQ := hQ.2 c1
    refine ev_if_eq 15 dX8_expectSign_5 (by decide) (fun _ => ?_) (fun h9 => absurd (by decide : ((0 : Int32) = 0)) h9)
    refine ev_aload_n (ev_o 8 a) dX8_expectSign_15 rfl rfl ?_
    refine ev_iconst (1) dX8_expectSign_16 rfl ?_
    refine ev_cV mv_X8_fail 1 0 8 [ev_i 1] [] dX8_expectSign_17 kw_437 rfl (by decide) rfl (by decide) (by decide) (Nat.le_of_ble_eq_true rfl) hQ ?_ rfl
    rintro o S2 ⟨rfl, hQ⟩
    show ev_E g m_X8_expectSign 4 0 20 [some (ev_o 8 a), some (ev_i x0)] [] S2 Q
    exact ev_return dX8_expectSign_20 rfl hQ
set_option maxHeartbeats 4000000 in
set_option maxRecDepth 100000 in
theorem sg_X0_clear_0 {g : ev_G} {S : ev_S} {Q : ev_O → ev_S → Prop} (a : Nat) (x0 : Int32) (x1 : Int32) (hQ : ∀ S1 : ev_S, S1 = (ev_up S a 4 x0) → (
    ∀ S2 : ev_S, S2 = (ev_up S1 a 5 x1) → (
      ∀ S3 : ev_S, S3 = (ev_up S2 a 6 0) → (
        ∀ S4 : ev_S, S4 = (ev_up S3 a 7 0) → (
          ∀ S5 : ev_S, S5 = (ev_up S4 a 8 0) → (
            ∀ S6 : ev_S, S6 = (j_fill S5 64 (a + 1) (-1)) → (
              ∀ S7 : ev_S, S7 = (j_fill S6 2 (a + 2) 0) → (
                Q (.inl none) S7)))))))) : ev_Cv g m_X0_clear 2 0 [ev_o 0 a, ev_i x0, ev_i x1] S Q := by
  refine ev_enter (by decide) rfl rfl (Nat.le_of_ble_eq_true rfl) ?_
  show ev_E g m_X0_clear 2 0 0 [some (ev_o 0 a), some (ev_i x0), some (ev_i x1)] [] S Q
  refine ev_aload_n (ev_o 0 a) dX0_clear_0 rfl rfl ?_
  refine ev_iload_n (x0) dX0_clear_1 rfl ?_
  refine pf_0_4 dX0_clear_2 kw_154 ?_
  refine ev_sub hQ (fun S1 hS1 hQ => ?_)
  refine ev_E.goal (pc' := 5) (L' := [some (ev_o 0 a), some (ev_i x0), some (ev_i x1)]) (K' := []) (S' := S1) ?_ rfl rfl rfl hS1
  refine ev_aload_n (ev_o 0 a) dX0_clear_5 rfl rfl ?_
  refine ev_iload_n (x1) dX0_clear_6 rfl ?_
  refine pf_0_5 dX0_clear_7 kw_155 ?_
  refine ev_sub hQ (fun S2 hS2 hQ => ?_)
  refine ev_E.goal (pc' := 10) (L' := [some (ev_o 0 a), some (ev_i x0), some (ev_i x1)]) (K' := []) (S' := S2) ?_ rfl rfl rfl hS2
  refine ev_aload_n (ev_o 0 a) dX0_clear_10 rfl rfl ?_
  refine ev_iconst (0) dX0_clear_11 rfl ?_
  refine pf_0_6 dX0_clear_12 kw_156 ?_
  refine ev_sub hQ (fun S3 hS3 hQ => ?_)
  refine ev_E.goal (pc' := 15) (L' := [some (ev_o 0 a), some (ev_i x0), some (ev_i x1)]) (K' := []) (S' := S3) ?_ rfl rfl rfl hS3
  refine ev_aload_n (ev_o 0 a) dX0_clear_15 rfl rfl ?_
  refine ev_iconst (0) dX0_clear_16 rfl ?_
  refine pf_0_7 dX0_clear_17 kw_157 ?_
  refine ev_sub hQ (fun S4 hS4 hQ => ?_)
  refine ev_E.goal (pc' := 20) (L' := [some (ev_o 0 a), some (ev_i x0), some (ev_i x1)]) (K' := []) (S' := S4) ?_ rfl rfl rfl hS4
  refine ev_aload_n (ev_o 0 a) dX0_clear_20 rfl rfl ?_
  refine ev_iconst (0) dX0_clear_21 rfl ?_
  refine pf_0_8 dX0_clear_22 kw_158 ?_
  refine ev_sub hQ (fun S5 hS5 hQ => ?_)
  refine ev_E.goal (pc' := 25) (L' := [some (ev_o 0 a), some (ev_i x0), some (ev_i x1)]) (K' := []) (S' := S5) ?_ rfl rfl rfl hS5
  refine ev_aload_n (ev_o 0 a) dX0_clear_25 rfl rfl ?_
  refine gf_0_0 dX0_clear_26 kw_150 ?_
  refine ev_iconst (-1) dX0_clear_29 rfl ?_
  refine ev_fSn ms_J7_fill_53178 1 [ev_y 64 (a + 1), ev_i (-1)] [] dX0_clear_30 kw_465 rfl (by decide) (Nat.le_of_ble_eq_true rfl) (sp_J7_fill_53178 64 (a + 1) (-1) (by decide)) ?_ rfl
  refine ev_sub hQ (fun S6 hS6 hQ => ?_)
  refine ev_E.goal (pc' := 33) (L' := [some (ev_o 0 a), some (ev_i x0), some (ev_i x1)]) (K' := []) (S' := S6) ?_ rfl rfl rfl hS6
  refine ev_aload_n (ev_o 0 a) dX0_clear_33 rfl rfl ?_
  refine gf_0_1 dX0_clear_34 kw_151 ?_
  refine ev_iconst (0) dX0_clear_37 rfl ?_
  refine ev_fSn ms_J7_fill_53178 1 [ev_y 2 (a + 2), ev_i 0] [] dX0_clear_38 kw_465 rfl (by decide) (Nat.le_of_ble_eq_true rfl) (sp_J7_fill_53178 2 (a + 2) 0 (by decide)) ?_ rfl
  refine ev_sub hQ (fun S7 hS7 hQ => ?_)
  refine ev_E.goal (pc' := 41) (L' := [some (ev_o 0 a), some (ev_i x0), some (ev_i x1)]) (K' := []) (S' := S7) ?_ rfl rfl rfl hS7
  exact ev_return dX0_clear_41 rfl hQ
set_option maxHeartbeats 4000000 in
set_option maxRecDepth 100000 in
theorem sg_X1_clear_0 {g : ev_G} {S : ev_S} {Q : ev_O → ev_S → Prop} (a : Nat) (x0 : Int32) (x1 : Int32) (hQ : ev_Cv g m_X0_clear 2 0 [ev_o 0 (a + 1), ev_i x0, ev_i x1] S (fun o S1 => o = .inl none ∧ (
    ∀ S2 : ev_S, S2 = (j_fill S1 61 (a + 6) (-1)) → (
      ∀ S3 : ev_S, S3 = (j_fill S2 61 (a + 7) (-1)) → (
        ∀ S4 : ev_S, S4 = (j_fill S3 61 (a + 8) (-1)) → (
          ∀ S5 : ev_S, S5 = (ev_up S4 a 5 0) → (
            ∀ S6 : ev_S, S6 = (ev_up S5 a 6 0) → (
              ∀ S7 : ev_S, S7 = (ev_up S6 a 7 (-1)) → (
                ∀ S8 : ev_S, S8 = (ev_up S7 a 8 0) → (
                  ∀ S9 : ev_S, S9 = (ev_up S8 a 9 0) → (
                    ∀ S10 : ev_S, S10 = (ev_up S9 a 10 0) → (
                      Q (.inl none) S10)))))))))))) : ev_Cv g m_X1_clear 3 0 [ev_o 1 a, ev_i x0, ev_i x1] S Q := by
  refine ev_enter (by decide) rfl rfl (Nat.le_of_ble_eq_true rfl) ?_
  show ev_E g m_X1_clear 3 0 0 [some (ev_o 1 a), some (ev_i x0), some (ev_i x1)] [] S Q
  refine ev_aload_n (ev_o 1 a) dX1_clear_0 rfl rfl ?_
  refine gf_1_1 dX1_clear_1 kw_179 ?_
  refine ev_iload_n (x0) dX1_clear_4 rfl ?_
  refine ev_iload_n (x1) dX1_clear_5 rfl ?_
  refine ev_cV mv_X0_clear 2 0 0 [ev_i x0, ev_i x1] [] dX1_clear_6 kw_461 rfl (by decide) rfl (by decide) (by decide) (Nat.le_of_ble_eq_true rfl) hQ ?_ rfl
  rintro o S1 ⟨rfl, hQ⟩
  show ev_E g m_X1_clear 3 0 9 [some (ev_o 1 a), some (ev_i x0), some (ev_i x1)] [] S1 Q
  refine ev_aload_n (ev_o 1 a) dX1_clear_9 rfl rfl ?_
  refine gf_1_2 dX1_clear_10 kw_180 ?_
  refine ev_iconst (-1) dX1_clear_13 rfl ?_
  refine ev_fSn ms_J7_fill_53178 1 [ev_y 61 (a + 6), ev_i (-1)] [] dX1_clear_14 kw_468 rfl (by decide) (Nat.le_of_ble_eq_true rfl) (sp_J7_fill_53178 61 (a + 6) (-1) (by decide)) ?_ rfl
  refine ev_sub hQ (fun S2 hS2 hQ => ?_)
  refine ev_E.goal (pc' := 17) (L' := [some (ev_o 1 a), some (ev_i x0), some (ev_i x1)]) (K' := []) (S' := S2) ?_ rfl rfl rfl hS2
  refine ev_aload_n (ev_o 1 a) dX1_clear_17 rfl rfl ?_
  refine gf_1_3 dX1_clear_18 kw_181 ?_
  refine ev_iconst (-1) dX1_clear_21 rfl ?_
  refine ev_fSn ms_J7_fill_53178 1 [ev_y 61 (a + 7), ev_i (-1)] [] dX1_clear_22 kw_468 rfl (by decide) (Nat.le_of_ble_eq_true rfl) (sp_J7_fill_53178 61 (a + 7) (-1) (by decide)) ?_ rfl
  refine ev_sub hQ (fun S3 hS3 hQ => ?_)
  refine ev_E.goal (pc' := 25) (L' := [some (ev_o 1 a), some (ev_i x0), some (ev_i x1)]) (K' := []) (S' := S3) ?_ rfl rfl rfl hS3
  refine ev_aload_n (ev_o 1 a) dX1_clear_25 rfl rfl ?_
  refine gf_1_4 dX1_clear_26 kw_182 ?_
  refine ev_iconst (-1) dX1_clear_29 rfl ?_
  refine ev_fSn ms_J7_fill_53178 1 [ev_y 61 (a + 8), ev_i (-1)] [] dX1_clear_30 kw_468 rfl (by decide) (Nat.le_of_ble_eq_true rfl) (sp_J7_fill_53178 61 (a + 8) (-1) (by decide)) ?_ rfl
  refine ev_sub hQ (fun S4 hS4 hQ => ?_)
  refine ev_E.goal (pc' := 33) (L' := [some (ev_o 1 a), some (ev_i x0), some (ev_i x1)]) (K' := []) (S' := S4) ?_ rfl rfl rfl hS4
  refine ev_aload_n (ev_o 1 a) dX1_clear_33 rfl rfl ?_
  refine ev_iconst (0) dX1_clear_34 rfl ?_
  refine pf_1_5 dX1_clear_35 kw_183 ?_
  refine ev_sub hQ (fun S5 hS5 hQ => ?_)
  refine ev_E.goal (pc' := 38) (L' := [some (ev_o 1 a), some (ev_i x0), some (ev_i x1)]) (K' := []) (S' := S5) ?_ rfl rfl rfl hS5
  refine ev_aload_n (ev_o 1 a) dX1_clear_38 rfl rfl ?_
  refine ev_iconst (0) dX1_clear_39 rfl ?_
  refine pf_1_6 dX1_clear_40 kw_184 ?_
  refine ev_sub hQ (fun S6 hS6 hQ => ?_)
  refine ev_E.goal (pc' := 43) (L' := [some (ev_o 1 a), some (ev_i x0), some (ev_i x1)]) (K' := []) (S' := S6) ?_ rfl rfl rfl hS6
  refine ev_aload_n (ev_o 1 a) dX1_clear_43 rfl rfl ?_
  refine ev_iconst (-1) dX1_clear_44 rfl ?_
  refine pf_1_7 dX1_clear_45 kw_185 ?_
  refine ev_sub hQ (fun S7 hS7 hQ => ?_)
  refine ev_E.goal (pc' := 48) (L' := [some (ev_o 1 a), some (ev_i x0), some (ev_i x1)]) (K' := []) (S' := S7) ?_ rfl rfl rfl hS7
  refine ev_aload_n (ev_o 1 a) dX1_clear_48 rfl rfl ?_
  refine ev_iconst (0) dX1_clear_49 rfl ?_
  refine pf_1_8 dX1_clear_50 kw_186 ?_
  refine ev_sub hQ (fun S8 hS8 hQ => ?_)
  refine ev_E.goal (pc' := 53) (L' := [some (ev_o 1 a), some (ev_i x0), some (ev_i x1)]) (K' := []) (S' := S8) ?_ rfl rfl rfl hS8
  refine ev_aload_n (ev_o 1 a) dX1_clear_53 rfl rfl ?_
  refine ev_iconst (0) dX1_clear_54 rfl ?_
  refine pf_1_9 dX1_clear_55 kw_187 ?_
  refine ev_sub hQ (fun S9 hS9 hQ => ?_)
  refine ev_E.goal (pc' := 58) (L' := [some (ev_o 1 a), some (ev_i x0), some (ev_i x1)]) (K' := []) (S' := S9) ?_ rfl rfl rfl hS9
  refine ev_aload_n (ev_o 1 a) dX1_clear_58 rfl rfl ?_
  refine ev_iconst (0) dX1_clear_59 rfl ?_
  refine pf_1_10 dX1_clear_60 kw_188 ?_
  refine ev_sub hQ (fun S10 hS10 hQ => ?_)
  refine ev_E.goal (pc' := 63) (L' := [some (ev_o 1 a), some (ev_i x0), some (ev_i x1)]) (K' := []) (S' := S10) ?_ rfl rfl rfl hS10
  exact ev_return dX1_clear_63 rfl hQ
set_option maxHeartbeats 4000000 in
set_option maxRecDepth 100000 in
theorem sg_X5_clear_0 {g : ev_G} {S : ev_S} {Q : ev_O → ev_S → Prop} (a : Nat) (hQ : ∀ S1 : ev_S, S1 = (j_fill S 4 (a + 1) 0) → (
    ∀ S2 : ev_S, S2 = (j_fill S1 48 (a + 2) 0) → (
      ∀ S3 : ev_S, S3 = (j_fill S2 8 (a + 3) 0) → (
        ∀ S4 : ev_S, S4 = (ev_up S3 a 3 0) → (
          ∀ S5 : ev_S, S5 = (ev_up S4 a 4 0) → (
            Q (.inl none) S5)))))) : ev_Cv g m_X5_clear 2 0 [ev_o 5 a] S Q := by
  refine ev_enter (by decide) rfl rfl (Nat.le_of_ble_eq_true rfl) ?_
  show ev_E g m_X5_clear 2 0 0 [some (ev_o 5 a)] [] S Q
  refine ev_aload_n (ev_o 5 a) dX5_clear_0 rfl rfl ?_
  refine gf_5_0 dX5_clear_1 kw_224 ?_
  refine ev_iconst (0) dX5_clear_4 rfl ?_
  refine ev_fSn ms_J7_fill_53178 1 [ev_y 4 (a + 1), ev_i 0] [] dX5_clear_5 kw_477 rfl (by decide) (Nat.le_of_ble_eq_true rfl) (sp_J7_fill_53178 4 (a + 1) 0 (by decide)) ?_ rfl
  refine ev_sub hQ (fun S1 hS1 hQ => ?_)
  refine ev_E.goal (pc' := 8) (L' := [some (ev_o 5 a)]) (K' := []) (S' := S1) ?_ rfl rfl rfl hS1
  refine ev_aload_n (ev_o 5 a) dX5_clear_8 rfl rfl ?_
  refine gf_5_1 dX5_clear_9 kw_225 ?_
  refine ev_iconst (0) dX5_clear_12 rfl ?_
  refine ev_fSn ms_J7_fill_53178 1 [ev_y 48 (a + 2), ev_i 0] [] dX5_clear_13 kw_477 rfl (by decide) (Nat.le_of_ble_eq_true rfl) (sp_J7_fill_53178 48 (a + 2) 0 (by decide)) ?_ rfl
  refine ev_sub hQ (fun S2 hS2 hQ => ?_)
  refine ev_E.goal (pc' := 16) (L' := [some (ev_o 5 a)]) (K' := []) (S' := S2) ?_ rfl rfl rfl hS2
  refine ev_aload_n (ev_o 5 a) dX5_clear_16 rfl rfl ?_
  refine gf_5_2 dX5_clear_17 kw_226 ?_
  refine ev_iconst (0) dX5_clear_20 rfl ?_
  refine ev_fSn ms_J7_fill_53178 1 [ev_y 8 (a + 3), ev_i 0] [] dX5_clear_21 kw_477 rfl (by decide) (Nat.le_of_ble_eq_true rfl) (sp_J7_fill_53178 8 (a + 3) 0 (by decide)) ?_ rfl
  refine ev_sub hQ (fun S3 hS3 hQ => ?_)
  refine ev_E.goal (pc' := 24) (L' := [some (ev_o 5 a)]) (K' := []) (S' := S3) ?_ rfl rfl rfl hS3
  refine ev_aload_n (ev_o 5 a) dX5_clear_24 rfl rfl ?_
  refine ev_iconst (0) dX5_clear_25 rfl ?_
  refine pf_5_3 dX5_clear_26 kw_227 ?_
  refine ev_sub hQ (fun S4 hS4 hQ => ?_)
  refine ev_E.goal (pc' := 29) (L' := [some (ev_o 5 a)]) (K' := []) (S' := S4) ?_ rfl rfl rfl hS4
  refine ev_aload_n (ev_o 5 a) dX5_clear_29 rfl rfl ?_
  refine ev_iconst (0) dX5_clear_30 rfl ?_
  refine pf_5_4 dX5_clear_31 kw_228 ?_
  refine ev_sub hQ (fun S5 hS5 hQ => ?_)
  refine ev_E.goal (pc' := 34) (L' := [some (ev_o 5 a)]) (K' := []) (S' := S5) ?_ rfl rfl rfl hS5
  exact ev_return dX5_clear_34 rfl hQ
set_option maxHeartbeats 4000000 in
set_option maxRecDepth 100000 in
theorem sg_X6_clear_0 {g : ev_G} {S : ev_S} {Q : ev_O → ev_S → Prop} (a : Nat) (hQ : ev_Cv g m_X5_clear 2 0 [ev_o 5 (a + 1)] S (fun o S1 => o = .inl none ∧ (
    ∀ S2 : ev_S, S2 = (j_fill S1 8 (a + 16) 0) → (
      ∀ S3 : ev_S, S3 = (ev_up S2 a 13 0) → (
        ∀ S4 : ev_S, S4 = (ev_up S3 a 14 0) → (
          ∀ S5 : ev_S, S5 = (ev_up S4 a 16 0) → (
            ∀ S6 : ev_S, S6 = (ev_up S5 a 17 0) → (
              Q (.inl none) S6)))))))) : ev_Cv g m_X6_clear 3 0 [ev_o 6 a] S Q := by
  refine ev_enter (by decide) rfl rfl (Nat.le_of_ble_eq_true rfl) ?_
  show ev_E g m_X6_clear 3 0 0 [some (ev_o 6 a)] [] S Q
  refine ev_aload_n (ev_o 6 a) dX6_clear_0 rfl rfl ?_
  refine gf_6_0 dX6_clear_1 kw_240 ?_
  refine ev_cV mv_X5_clear 2 0 5 [] [] dX6_clear_4 kw_473 rfl (by decide) rfl (by decide) (by decide) (Nat.le_of_ble_eq_true rfl) hQ ?_ rfl
  rintro o S1 ⟨rfl, hQ⟩
  show ev_E g m_X6_clear 3 0 7 [some (ev_o 6 a)] [] S1 Q
  refine ev_aload_n (ev_o 6 a) dX6_clear_7 rfl rfl ?_
  refine gf_6_12 dX6_clear_8 kw_252 ?_
  refine ev_iconst (0) dX6_clear_11 rfl ?_
  refine ev_fSn ms_J7_fill_53178 1 [ev_y 8 (a + 16), ev_i 0] [] dX6_clear_12 kw_478 rfl (by decide) (Nat.le_of_ble_eq_true rfl) (sp_J7_fill_53178 8 (a + 16) 0 (by decide)) ?_ rfl
  refine ev_sub hQ (fun S2 hS2 hQ => ?_)
  refine ev_E.goal (pc' := 15) (L' := [some (ev_o 6 a)]) (K' := []) (S' := S2) ?_ rfl rfl rfl hS2
  refine ev_aload_n (ev_o 6 a) dX6_clear_15 rfl rfl ?_
  refine ev_iconst (0) dX6_clear_16 rfl ?_
  refine pf_6_13 dX6_clear_17 kw_253 ?_
  refine ev_sub hQ (fun S3 hS3 hQ => ?_)
  refine ev_E.goal (pc' := 20) (L' := [some (ev_o 6 a)]) (K' := []) (S' := S3) ?_ rfl rfl rfl hS3
  refine ev_aload_n (ev_o 6 a) dX6_clear_20 rfl rfl ?_
  refine ev_iconst (0) dX6_clear_21 rfl ?_
  refine pf_6_14 dX6_clear_22 kw_254 ?_
  refine ev_sub hQ (fun S4 hS4 hQ => ?_)
  refine ev_E.goal (pc' := 25) (L' := [some (ev_o 6 a)]) (K' := []) (S' := S4) ?_ rfl rfl rfl hS4
  refine ev_aload_n (ev_o 6 a) dX6_clear_25 rfl rfl ?_
  refine ev_iconst (0) dX6_clear_26 rfl ?_
  refine pf_6_16 dX6_clear_27 kw_256 ?_
  refine ev_sub hQ (fun S5 hS5 hQ => ?_)
  refine ev_E.goal (pc' := 30) (L' := [some (ev_o 6 a)]) (K' := []) (S' := S5) ?_ rfl rfl rfl hS5
  refine ev_aload_n (ev_o 6 a) dX6_clear_30 rfl rfl ?_
  refine ev_iconst (0) dX6_clear_31 rfl ?_
  refine pf_6_17 dX6_clear_32 kw_257 ?_
  refine ev_sub hQ (fun S6 hS6 hQ => ?_)
  refine ev_E.goal (pc' := 35) (L' := [some (ev_o 6 a)]) (K' := []) (S' := S6) ?_ rfl rfl rfl hS6
  exact ev_return dX6_clear_35 rfl hQ
set_option maxHeartbeats 4000000 in
set_option maxRecDepth 100000 in
theorem sg_X2_clear_0 {g : ev_G} {S : ev_S} {Q : ev_O → ev_S → Prop} (a : Nat) (x0 : Int32) (x1 : Int32) (hQ : ev_Cv g m_X1_clear 3 0 [ev_o 1 (a + 1), ev_i x0, ev_i x1] S (fun o S1 => o = .inl none ∧ (
    ev_Cv g m_X1_clear 3 0 [ev_o 1 (a + 10), ev_i x0, ev_i x1] S1 (fun o S2 => o = .inl none ∧ (
      ev_Cv g m_X6_clear 3 0 [ev_o 6 (a + 19)] S2 (fun o S3 => o = .inl none ∧ (
        ∀ S4 : ev_S, S4 = (ev_up S3 a 4 0) → (
          ∀ S5 : ev_S, S5 = (ev_up S4 a 5 0) → (
            Q (.inl none) S5))))))))) : ev_Cv g m_X2_clear 4 0 [ev_o 2 a, ev_i x0, ev_i x1] S Q := by
  refine ev_enter (by decide) rfl rfl (Nat.le_of_ble_eq_true rfl) ?_
  show ev_E g m_X2_clear 4 0 0 [some (ev_o 2 a), some (ev_i x0), some (ev_i x1)] [] S Q
  refine ev_aload_n (ev_o 2 a) dX2_clear_0 rfl rfl ?_
  refine gf_2_0 dX2_clear_1 kw_297 ?_
  refine ev_iload_n (x0) dX2_clear_4 rfl ?_
  refine ev_iload_n (x1) dX2_clear_5 rfl ?_
  refine ev_cV mv_X1_clear 3 0 1 [ev_i x0, ev_i x1] [] dX2_clear_6 kw_457 rfl (by decide) rfl (by decide) (by decide) (Nat.le_of_ble_eq_true rfl) hQ ?_ rfl
  rintro o S1 ⟨rfl, hQ⟩
  show ev_E g m_X2_clear 4 0 9 [some (ev_o 2 a), some (ev_i x0), some (ev_i x1)] [] S1 Q
  refine ev_aload_n (ev_o 2 a) dX2_clear_9 rfl rfl ?_
  refine gf_2_1 dX2_clear_10 kw_298 ?_
  refine ev_iload_n (x0) dX2_clear_13 rfl ?_
  refine ev_iload_n (x1) dX2_clear_14 rfl ?_
  refine ev_cV mv_X1_clear 3 0 1 [ev_i x0, ev_i x1] [] dX2_clear_15 kw_457 rfl (by decide) rfl (by decide) (by decide) (Nat.le_of_ble_eq_true rfl) hQ ?_ rfl
  rintro o S2 ⟨rfl, hQ⟩
  show ev_E g m_X2_clear 4 0 18 [some (ev_o 2 a), some (ev_i x0), some (ev_i x1)] [] S2 Q
  refine ev_aload_n (ev_o 2 a) dX2_clear_18 rfl rfl ?_
  refine gf_2_2 dX2_clear_19 kw_299 ?_
  refine ev_cV mv_X6_clear 3 0 6 [] [] dX2_clear_22 kw_469 rfl (by decide) rfl (by decide) (by decide) (Nat.le_of_ble_eq_true rfl) hQ ?_ rfl
  rintro o S3 ⟨rfl, hQ⟩
  show ev_E g m_X2_clear 4 0 25 [some (ev_o 2 a), some (ev_i x0), some (ev_i x1)] [] S3 Q
  refine ev_aload_n (ev_o 2 a) dX2_clear_25 rfl rfl ?_
  refine ev_iconst (0) dX2_clear_26 rfl ?_
  refine pf_2_4 dX2_clear_27 kw_301 ?_
  refine ev_sub hQ (fun S4 hS4 hQ => ?_)
  refine ev_E.goal (pc' := 30) (L' := [some (ev_o 2 a), some (ev_i x0), some (ev_i x1)]) (K' := []) (S' := S4) ?_ rfl rfl rfl hS4
  refine ev_aload_n (ev_o 2 a) dX2_clear_30 rfl rfl ?_
  refine ev_iconst (0) dX2_clear_31 rfl ?_
  refine pf_2_5 dX2_clear_32 kw_302 ?_
  refine ev_sub hQ (fun S5 hS5 hQ => ?_)
  refine ev_E.goal (pc' := 35) (L' := [some (ev_o 2 a), some (ev_i x0), some (ev_i x1)]) (K' := []) (S' := S5) ?_ rfl rfl rfl hS5
  exact ev_return dX2_clear_35 rfl hQ
set_option maxHeartbeats 4000000 in
set_option maxRecDepth 100000 in
theorem sg_X8_skipWord_0 {g : ev_G} {S : ev_S} {Q : ev_O → ev_S → Prop} (a : Nat) (k0 : Nat) (hQ : ev_Cv g m_X8_isWord 5 0 [ev_o 8 a, ev_x 1 k0] S (fun o S1 => ∃ v1_ : Bool, o = .inl (some (ev_i (if v1_ = true then 1 else 0))) ∧ (
    (v1_ = true → (
      ev_Cv g m_X8_step 3 0 [ev_o 8 a] S1 (fun o S2 => o = .inl none ∧ (
        Q (.inl (some (ev_i 1))) S2)))) ∧
    (¬ (v1_ = true) → (
      Q (.inl (some (ev_i 0))) S1))))) : ev_Cv g m_X8_skipWord 6 0 [ev_o 8 a, ev_x 1 k0] S Q := by
  refine ev_enter (by decide) rfl rfl (Nat.le_of_ble_eq_true rfl) ?_
  show ev_E g m_X8_skipWord 6 0 0 [some (ev_o 8 a), some (ev_x 1 k0)] [] S Q
  refine ev_aload_n (ev_o 8 a) dX8_skipWord_0 rfl rfl ?_
  refine ev_aload_n (ev_x 1 k0) dX8_skipWord_1 rfl rfl ?_
  refine ev_cV mv_X8_isWord 5 0 8 [ev_x 1 k0] [] dX8_skipWord_2 kw_431 rfl (by decide) rfl (by decide) (by decide) (Nat.le_of_ble_eq_true rfl) hQ ?_ rfl
  rintro o S1 ⟨v1_, rfl, hQ⟩
  show ev_E g m_X8_skipWord 6 0 5 [some (ev_o 8 a), some (ev_x 1 k0)] [ev_i (if v1_ = true then 1 else 0)] S1 Q
  by_cases c1 : v1_ = true
  · rw [if_pos c1]
    replace hQ := hQ.1 c1
    refine ev_if_ne 10 dX8_skipWord_5 (by decide) (fun _ => ?_) (fun h9 => absurd h9 (by decide : ¬ ((1 : Int32) = 0)))
    refine ev_aload_n (ev_o 8 a) dX8_skipWord_10 rfl rfl ?_
    refine ev_cV mv_X8_step 3 0 8 [] [] dX8_skipWord_11 kw_399 rfl (by decide) rfl (by decide) (by decide) (Nat.le_of_ble_eq_true rfl) hQ ?_ rfl
    rintro o S2 ⟨rfl, hQ⟩
    show ev_E g m_X8_skipWord 6 0 14 [some (ev_o 8 a), some (ev_x 1 k0)] [] S2 Q
    refine ev_iconst (1) dX8_skipWord_14 rfl ?_
    exact ev_ireturn .boolean dX8_skipWord_15 rfl rfl hQ
  · rw [if_neg c1]
    replace hQ := hQ.2 c1
    refine ev_if_ne 10 dX8_skipWord_5 (by decide) (fun h9 => absurd (by decide : ((0 : Int32) = 0)) h9) (fun _ => ?_)
    refine ev_iconst (0) dX8_skipWord_8 rfl ?_
    exact ev_ireturn .boolean dX8_skipWord_9 rfl rfl hQ
set_option maxHeartbeats 4000000 in
set_option maxRecDepth 100000 in
theorem sg_X2_deskOf_0 {g : ev_G} {S : ev_S} {Q : ev_O → ev_S → Prop} (a : Nat) (x0 : Int32) (hQ : (x0 = 0 → (
    Q (.inl (some (ev_o 1 (a + 1)))) S)) ∧
  (¬ (x0 = 0) → (
    Q (.inl (some (ev_o 1 (a + 10)))) S))) : ev_Cv g m_X2_deskOf 1 0 [ev_o 2 a, ev_i x0] S Q := by
  refine ev_enter (by decide) rfl rfl (Nat.le_of_ble_eq_true rfl) ?_
  show ev_E g m_X2_deskOf 1 0 0 [some (ev_o 2 a), some (ev_i x0)] [] S Q
  refine ev_iload_n (x0) dX2_deskOf_0 rfl ?_
  refine ev_if_ne 11 dX2_deskOf_1 (by decide) (fun c1 => ?_) (fun c1 => ?_)
  · replace hQ := hQ.2 c1
    refine ev_aload_n (ev_o 2 a) dX2_deskOf_11 rfl rfl ?_
    refine gf_2_1 dX2_deskOf_12 kw_298 ?_
    exact ev_areturn _ dX2_deskOf_15 rfl rfl (Or.inl ⟨_, rfl⟩) hQ
  · replace hQ := hQ.1 c1
    refine ev_aload_n (ev_o 2 a) dX2_deskOf_4 rfl rfl ?_
    refine gf_2_0 dX2_deskOf_5 kw_297 ?_
    refine ev_goto 15 dX2_deskOf_8 (by decide) ?_
    exact ev_areturn _ dX2_deskOf_15 rfl rfl (Or.inl ⟨_, rfl⟩) hQ
def a_X2_deskOf (a : Nat) (x0 : Int32) : Nat := if x0 = 0 then ((a + 1)) else ((a + 10))
set_option maxHeartbeats 4000000 in
set_option maxRecDepth 100000 in
theorem sp_X2_deskOf {g : ev_G} {S : ev_S} (a : Nat) (x0 : Int32)  : ev_Fn g m_X2_deskOf 1 [ev_o 2 a, ev_i x0] S (some (ev_o 1 (a_X2_deskOf a x0))) S := by
  intro Q hQ
  refine sg_X2_deskOf_0 a x0 ?_
  unfold a_X2_deskOf at hQ
  refine ⟨fun c1 => ?_, fun c1 => ?_⟩
  · rw [if_pos c1] at hQ
    exact hQ
  · rw [if_neg c1] at hQ
    exact hQ
set_option maxHeartbeats 4000000 in
set_option maxRecDepth 100000 in
theorem sg_X1_board_0 {g : ev_G} {S : ev_S} {Q : ev_O → ev_S → Prop} (a : Nat) (hQ : Q (.inl (some (ev_o 0 (a + 1)))) S) : ev_Cv g m_X1_board 1 0 [ev_o 1 a] S Q := by
  refine ev_enter (by decide) rfl rfl (Nat.le_of_ble_eq_true rfl) ?_
  show ev_E g m_X1_board 1 0 0 [some (ev_o 1 a)] [] S Q
  refine ev_aload_n (ev_o 1 a) dX1_board_0 rfl rfl ?_
  refine gf_1_1 dX1_board_1 kw_179 ?_
  exact ev_areturn _ dX1_board_4 rfl rfl (Or.inl ⟨_, rfl⟩) hQ
set_option maxHeartbeats 4000000 in
set_option maxRecDepth 100000 in
theorem sp_X1_board {g : ev_G} {S : ev_S} (a : Nat)  : ev_Fn g m_X1_board 1 [ev_o 1 a] S (some (ev_o 0 (a + 1))) S := by
  intro Q hQ
  refine sg_X1_board_0 a ?_
  exact hQ
set_option maxHeartbeats 4000000 in
set_option maxRecDepth 100000 in
theorem sg_X2_boardOf_0 {g : ev_G} {S : ev_S} {Q : ev_O → ev_S → Prop} (a : Nat) (x0 : Int32) (hQ : Q (.inl (some (ev_o 0 ((a_X2_deskOf a x0) + 1)))) S) : ev_Cv g m_X2_boardOf 2 0 [ev_o 2 a, ev_i x0] S Q := by
  refine ev_enter (by decide) rfl rfl (Nat.le_of_ble_eq_true rfl) ?_
  show ev_E g m_X2_boardOf 2 0 0 [some (ev_o 2 a), some (ev_i x0)] [] S Q
  refine ev_aload_n (ev_o 2 a) dX2_boardOf_0 rfl rfl ?_
  refine ev_iload_n (x0) dX2_boardOf_1 rfl ?_
  refine ev_fV mv_X2_deskOf 1 2 [ev_i x0] [] dX2_boardOf_2 kw_492 rfl (by decide) rfl (by decide) (Nat.le_of_ble_eq_true rfl) (sp_X2_deskOf a x0) ?_ rfl
  refine ev_fV mv_X1_board 1 1 [] [] dX2_boardOf_5 kw_496 rfl (by decide) rfl (by decide) (Nat.le_of_ble_eq_true rfl) (sp_X1_board (a_X2_deskOf a x0)) ?_ rfl
  exact ev_areturn _ dX2_boardOf_8 rfl rfl (Or.inl ⟨_, rfl⟩) hQ
set_option maxHeartbeats 4000000 in
set_option maxRecDepth 100000 in
theorem sp_X2_boardOf {g : ev_G} {S : ev_S} (a : Nat) (x0 : Int32)  : ev_Fn g m_X2_boardOf 2 [ev_o 2 a, ev_i x0] S (some (ev_o 0 ((a_X2_deskOf a x0) + 1))) S := by
  intro Q hQ
  refine sg_X2_boardOf_0 a x0 ?_
  exact hQ
set_option maxHeartbeats 4000000 in
set_option maxRecDepth 100000 in
theorem sg_X0_bishopsOf_0 {g : ev_G} {S : ev_S} {Q : ev_O → ev_S → Prop} (a : Nat) (x0 : Int32) (hQ : Q (.inl (some (ev_i (j_at (S.1 (a + 2)) 2 x0)))) S) : ev_Cv g m_X0_bishopsOf 2 0 [ev_o 0 a, ev_i x0] S Q := by
  refine ev_enter (by decide) rfl rfl (Nat.le_of_ble_eq_true rfl) ?_
  show ev_E g m_X0_bishopsOf 2 0 0 [some (ev_o 0 a), some (ev_i x0)] [] S Q
  refine ev_aload_n (ev_o 0 a) dX0_bishopsOf_0 rfl rfl ?_
  refine gf_0_1 dX0_bishopsOf_1 kw_151 ?_
  refine ev_iload_n (x0) dX0_bishopsOf_4 rfl ?_
  refine ev_fN ms_X9_at 1 [ev_y 2 (a + 2), ev_i x0] [] dX0_bishopsOf_5 (List.mem_of_getElem? (i := 11) rfl) rfl (by decide) (Nat.le_of_ble_eq_true rfl) (sp_X9_at 2 (a + 2) x0) ?_ rfl
  exact ev_ireturn .int dX0_bishopsOf_8 rfl rfl hQ
set_option maxHeartbeats 4000000 in
set_option maxRecDepth 100000 in
theorem sp_X0_bishopsOf {g : ev_G} {S : ev_S} (a : Nat) (x0 : Int32)  : ev_Fn g m_X0_bishopsOf 2 [ev_o 0 a, ev_i x0] S (some (ev_i (j_at (S.1 (a + 2)) 2 x0))) S := by
  intro Q hQ
  refine sg_X0_bishopsOf_0 a x0 ?_
  exact hQ
set_option maxHeartbeats 4000000 in
set_option maxRecDepth 100000 in
theorem sg_X8_failBefore_0 {g : ev_G} {S : ev_S} {Q : ev_O → ev_S → Prop} (a : Nat) (x0 : Int32) (hQ : ((S.1 a 7) = 0 → (
    ∀ S1 : ev_S, S1 = (ev_up S a 7 x0) → (
      ∀ S2 : ev_S, S2 = (ev_up S1 a 8 (S.1 a 6)) → (
        Q (.inl none) S2)))) ∧
  (¬ ((S.1 a 7) = 0) → (
    Q (.inl none) S))) : ev_Cv g m_X8_failBefore 1 0 [ev_o 8 a, ev_i x0] S Q := by
  refine ev_enter (by decide) rfl rfl (Nat.le_of_ble_eq_true rfl) ?_
  show ev_E g m_X8_failBefore 1 0 0 [some (ev_o 8 a), some (ev_i x0)] [] S Q
  refine ev_aload_n (ev_o 8 a) dX8_failBefore_0 rfl rfl ?_
  refine gf_8_7 dX8_failBefore_1 kw_70 ?_
  refine ev_if_ne 20 dX8_failBefore_4 (by decide) (fun c1 => ?_) (fun c1 => ?_)
  · replace hQ := hQ.2 c1
    exact ev_return dX8_failBefore_20 rfl hQ
  · replace hQ := hQ.1 c1
    refine ev_aload_n (ev_o 8 a) dX8_failBefore_7 rfl rfl ?_
    refine ev_iload_n (x0) dX8_failBefore_8 rfl ?_
    refine pf_8_7 dX8_failBefore_9 kw_70 ?_
    refine ev_sub hQ (fun S1 hS1 hQ => ?_)
    refine ev_E.goal (pc' := 12) (L' := [some (ev_o 8 a), some (ev_i x0)]) (K' := []) (S' := S1) ?_ rfl rfl rfl hS1
    refine ev_aload_n (ev_o 8 a) dX8_failBefore_12 rfl rfl ?_
    refine ev_aload_n (ev_o 8 a) dX8_failBefore_13 rfl rfl ?_
    refine gf_8_6 dX8_failBefore_14 kw_69 ?_
    refine ev_ke (j_rk hS1 (Or.inr (by decide))) ?_
    refine pf_8_8 dX8_failBefore_17 kw_71 ?_
    refine ev_sub hQ (fun S2 hS2 hQ => ?_)
    refine ev_E.goal (pc' := 20) (L' := [some (ev_o 8 a), some (ev_i x0)]) (K' := []) (S' := S2) ?_ rfl rfl rfl hS2
    exact ev_return dX8_failBefore_20 rfl hQ
set_option maxHeartbeats 4000000 in
set_option maxRecDepth 100000 in
theorem sg_X0_ownerOn_0 {g : ev_G} {S : ev_S} {Q : ev_O → ev_S → Prop} (a : Nat) (x0 : Int32) (hQ : Q (.inl (some (ev_i (j_at (S.1 (a + 1)) 64 x0)))) S) : ev_Cv g m_X0_ownerOn 2 0 [ev_o 0 a, ev_i x0] S Q := by
  refine ev_enter (by decide) rfl rfl (Nat.le_of_ble_eq_true rfl) ?_
  show ev_E g m_X0_ownerOn 2 0 0 [some (ev_o 0 a), some (ev_i x0)] [] S Q
  refine ev_aload_n (ev_o 0 a) dX0_ownerOn_0 rfl rfl ?_
  refine gf_0_0 dX0_ownerOn_1 kw_150 ?_
  refine ev_iload_n (x0) dX0_ownerOn_4 rfl ?_
  refine ev_fN ms_X9_at 1 [ev_y 64 (a + 1), ev_i x0] [] dX0_ownerOn_5 (List.mem_of_getElem? (i := 11) rfl) rfl (by decide) (Nat.le_of_ble_eq_true rfl) (sp_X9_at 64 (a + 1) x0) ?_ rfl
  exact ev_ireturn .int dX0_ownerOn_8 rfl rfl hQ
set_option maxHeartbeats 4000000 in
set_option maxRecDepth 100000 in
theorem sp_X0_ownerOn {g : ev_G} {S : ev_S} (a : Nat) (x0 : Int32)  : ev_Fn g m_X0_ownerOn 2 [ev_o 0 a, ev_i x0] S (some (ev_i (j_at (S.1 (a + 1)) 64 x0))) S := by
  intro Q hQ
  refine sg_X0_ownerOn_0 a x0 ?_
  exact hQ
set_option maxHeartbeats 4000000 in
set_option maxRecDepth 100000 in
theorem sg_X8_hasError_0 {g : ev_G} {S : ev_S} {Q : ev_O → ev_S → Prop} (a : Nat) (hQ : ((S.1 a 7) = 0 → (
    Q (.inl (some (ev_i 0))) S)) ∧
  (¬ ((S.1 a 7) = 0) → (
    Q (.inl (some (ev_i 1))) S))) : ev_Cv g m_X8_hasError 1 0 [ev_o 8 a] S Q := by
  refine ev_enter (by decide) rfl rfl (Nat.le_of_ble_eq_true rfl) ?_
  show ev_E g m_X8_hasError 1 0 0 [some (ev_o 8 a)] [] S Q
  refine ev_aload_n (ev_o 8 a) dX8_hasError_0 rfl rfl ?_
  refine gf_8_7 dX8_hasError_1 kw_70 ?_
  refine ev_if_eq 11 dX8_hasError_4 (by decide) (fun c1 => ?_) (fun c1 => ?_)
  · replace hQ := hQ.1 c1
    refine ev_iconst (0) dX8_hasError_11 rfl ?_
    exact ev_ireturn .boolean dX8_hasError_12 rfl rfl hQ
  · replace hQ := hQ.2 c1
    refine ev_iconst (1) dX8_hasError_7 rfl ?_
    refine ev_goto 12 dX8_hasError_8 (by decide) ?_
    exact ev_ireturn .boolean dX8_hasError_12 rfl rfl hQ
set_option maxHeartbeats 4000000 in
set_option maxRecDepth 100000 in
theorem sp_X8_hasError {g : ev_G} {S : ev_S} (a : Nat)  : ev_Fn g m_X8_hasError 1 [ev_o 8 a] S (some (ev_i (if (S.1 a 7) = 0 then 0 else 1))) S := by
  intro Q hQ
  refine sg_X8_hasError_0 a ?_
  refine ⟨fun c1 => ?_, fun c1 => ?_⟩
  · rw [if_pos c1] at hQ
    exact hQ
  · rw [if_neg c1] at hQ
    exact hQ
set_option maxHeartbeats 4000000 in
set_option maxRecDepth 100000 in
theorem sg_X0_place_0 {g : ev_G} {S : ev_S} {Q : ev_O → ev_S → Prop} (a : Nat) (x0 : Int32) (x1 : Int32) (hQ : ∀ S1 : ev_S, S1 = (j_put S (a + 1) 64 x1 x0) → (
    ∀ S2 : ev_S, S2 = (j_put S1 (a + 2) 2 x0 ((j_at (S1.1 (a + 2)) 2 x0) + 1)) → (
      ∀ S3 : ev_S, S3 = (ev_up S2 a 8 ((S2.1 a 8) + 1)) → (
        Q (.inl none) S3)))) : ev_Cv g m_X0_place 2 0 [ev_o 0 a, ev_i x0, ev_i x1] S Q := by
  refine ev_enter (by decide) rfl rfl (Nat.le_of_ble_eq_true rfl) ?_
  show ev_E g m_X0_place 2 0 0 [some (ev_o 0 a), some (ev_i x0), some (ev_i x1)] [] S Q
  refine ev_aload_n (ev_o 0 a) dX0_place_0 rfl rfl ?_
  refine gf_0_0 dX0_place_1 kw_150 ?_
  refine ev_iload_n (x1) dX0_place_4 rfl ?_
  refine ev_iload_n (x0) dX0_place_5 rfl ?_
  refine ev_fNn ms_X9_put 1 [ev_y 64 (a + 1), ev_i x1, ev_i x0] [] dX0_place_6 (List.mem_of_getElem? (i := 12) rfl) rfl (by decide) (Nat.le_of_ble_eq_true rfl) (sp_X9_put 64 (a + 1) x1 x0) ?_ rfl
  refine ev_sub hQ (fun S1 hS1 hQ => ?_)
  refine ev_E.goal (pc' := 9) (L' := [some (ev_o 0 a), some (ev_i x0), some (ev_i x1)]) (K' := []) (S' := S1) ?_ rfl rfl rfl hS1
  refine ev_aload_n (ev_o 0 a) dX0_place_9 rfl rfl ?_
  refine gf_0_1 dX0_place_10 kw_151 ?_
  refine ev_iload_n (x0) dX0_place_13 rfl ?_
  refine ev_aload_n (ev_o 0 a) dX0_place_14 rfl rfl ?_
  refine gf_0_1 dX0_place_15 kw_151 ?_
  refine ev_iload_n (x0) dX0_place_18 rfl ?_
  refine ev_fN ms_X9_at 1 [ev_y 2 (a + 2), ev_i x0] [ev_i x0, ev_y 2 (a + 2)] dX0_place_19 (List.mem_of_getElem? (i := 11) rfl) rfl (by decide) (Nat.le_of_ble_eq_true rfl) (sp_X9_at 2 (a + 2) x0) ?_ rfl
  refine ev_iconst (1) dX0_place_22 rfl ?_
  refine ev_iadd dX0_place_23 ?_
  refine ev_fNn ms_X9_put 1 [ev_y 2 (a + 2), ev_i x0, ev_i ((j_at (S1.1 (a + 2)) 2 x0) + 1)] [] dX0_place_24 (List.mem_of_getElem? (i := 12) rfl) rfl (by decide) (Nat.le_of_ble_eq_true rfl) (sp_X9_put 2 (a + 2) x0 ((j_at (S1.1 (a + 2)) 2 x0) + 1)) ?_ rfl
  refine ev_sub hQ (fun S2 hS2 hQ => ?_)
  refine ev_E.goal (pc' := 27) (L' := [some (ev_o 0 a), some (ev_i x0), some (ev_i x1)]) (K' := []) (S' := S2) ?_ rfl rfl rfl hS2
  refine ev_aload_n (ev_o 0 a) dX0_place_27 rfl rfl ?_
  refine ev_dup dX0_place_28 rfl ?_
  refine gf_0_8 dX0_place_29 kw_158 ?_
  refine ev_iconst (1) dX0_place_32 rfl ?_
  refine ev_iadd dX0_place_33 ?_
  refine pf_0_8 dX0_place_34 kw_158 ?_
  refine ev_sub hQ (fun S3 hS3 hQ => ?_)
  refine ev_E.goal (pc' := 37) (L' := [some (ev_o 0 a), some (ev_i x0), some (ev_i x1)]) (K' := []) (S' := S3) ?_ rfl rfl rfl hS3
  exact ev_return dX0_place_37 rfl hQ
