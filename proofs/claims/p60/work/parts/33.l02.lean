set_option maxHeartbeats 4000000 in
set_option maxRecDepth 100000 in
theorem sg_L_isBoard_0 {g : ev_G} {S : ev_S} {Q : ev_O → ev_S → Prop} {B : Nat} (b0 : Nat) (b1 : Nat) (x2 : Int32) (hQ : (vp_in x2 2) ∧ (
    ev_E g m_L_isBoard 6 B 13 [some (ev_o 9 b0), some (ev_o 11 b1), some (ev_i x2), some (ev_o 10 (a_bd (b1 + 1) x2)), some (ev_i 0), some (ev_i 0), none, none, none] [] S Q)) : ev_Cv g m_L_isBoard 6 B [ev_o 9 b0, ev_o 11 b1, ev_i x2] S Q := by
  refine ev_enter (by decide) rfl rfl (Nat.le_of_ble_eq_true rfl) ?_
  show ev_E g m_L_isBoard 6 B 0 [some (ev_o 9 b0), some (ev_o 11 b1), some (ev_i x2), none, none, none, none, none, none] [] S Q
  refine ev_aload_n (ev_o 11 b1) dL_isBoard_0 rfl rfl ?_
  refine gn_11_11 dL_isBoard_1 (List.mem_of_getElem? (i := 31) rfl) ?_
  refine ev_iload_n (x2) dL_isBoard_4 rfl ?_
  obtain ⟨h1, hQ⟩ := hQ
  refine ev_aalB dL_isBoard_5 h1 ?_
  show ev_E g m_L_isBoard 6 B 6 [some (ev_o 9 b0), some (ev_o 11 b1), some (ev_i x2), none, none, none, none, none, none] [ev_o 10 (a_bd (b1 + 1) x2)] S Q
  refine ev_astore_n dL_isBoard_6 rfl (Nat.le_of_ble_eq_true rfl) (ev_hw rfl) ?_
  show ev_E g m_L_isBoard 6 B 7 [some (ev_o 9 b0), some (ev_o 11 b1), some (ev_i x2), some (ev_o 10 (a_bd (b1 + 1) x2)), none, none, none, none, none] [] S Q
  refine ev_iconst (0) dL_isBoard_7 rfl ?_
  refine ev_istore dL_isBoard_8 (Nat.le_of_ble_eq_true rfl) (ev_hw rfl) ?_
  show ev_E g m_L_isBoard 6 B 10 [some (ev_o 9 b0), some (ev_o 11 b1), some (ev_i x2), some (ev_o 10 (a_bd (b1 + 1) x2)), some (ev_i 0), none, none, none, none] [] S Q
  refine ev_iconst (0) dL_isBoard_10 rfl ?_
  refine ev_istore dL_isBoard_11 (Nat.le_of_ble_eq_true rfl) (ev_hw rfl) ?_
  show ev_E g m_L_isBoard 6 B 13 [some (ev_o 9 b0), some (ev_o 11 b1), some (ev_i x2), some (ev_o 10 (a_bd (b1 + 1) x2)), some (ev_i 0), some (ev_i 0), none, none, none] [] S Q
  exact hQ
set_option maxHeartbeats 4000000 in
set_option maxRecDepth 100000 in
theorem sg_L_isBoard_13 {g : ev_G} {S : ev_S} {Q : ev_O → ev_S → Prop} {B : Nat} (b0 : Nat) (b1 : Nat) (u2 : Int32) (w3 : Nat) (u4 : Int32) (u5 : Int32) (hQ : (((S.1 b1 0) * (S.1 b1 0)) ≤ u5 → (
    ev_E g m_L_isBoard 6 (B + 1) 55 [some (ev_o 9 b0), some (ev_o 11 b1), some (ev_i u2), some (ev_o 10 w3), some (ev_i u4), some (ev_i 1), none, none, none] [] S Q)) ∧
  (¬ (((S.1 b1 0) * (S.1 b1 0)) ≤ u5) → (
    ev_Cv g m_X9_bishopOwner 4 1 [ev_o 9 b0, ev_i u2, ev_i u5] S (fun o S1 => ∃ v1_ : Int32, o = .inl (some (ev_i v1_)) ∧ (
      (vp_in u5 64) ∧ (
        (v1_ = (S1.1 (w3 + 1) u5.toNatClampNeg) → (
          ev_E g m_L_isBoard 6 B 13 [some (ev_o 9 b0), some (ev_o 11 b1), some (ev_i u2), some (ev_o 10 w3), some (ev_i u4), some (ev_i (u5 + 1)), none, none, none] [] S1 Q)) ∧
        (¬ (v1_ = (S1.1 (w3 + 1) u5.toNatClampNeg)) → (
          Q (.inl (some (ev_i 0))) S1)))))))) : ev_E g m_L_isBoard 6 (B + 1) 13 [some (ev_o 9 b0), some (ev_o 11 b1), some (ev_i u2), some (ev_o 10 w3), some (ev_i u4), some (ev_i u5), none, none, none] [] S Q := by
  refine ev_iload (u5) dL_isBoard_13 rfl ?_
  refine ev_aload_n (ev_o 11 b1) dL_isBoard_15 rfl rfl ?_
  refine gn_11_0 dL_isBoard_16 (List.mem_of_getElem? (i := 21) rfl) ?_
  refine ev_aload_n (ev_o 11 b1) dL_isBoard_19 rfl rfl ?_
  refine gn_11_0 dL_isBoard_20 (List.mem_of_getElem? (i := 21) rfl) ?_
  refine ev_imul dL_isBoard_23 ?_
  refine ev_icmp_ge 52 dL_isBoard_24 (by decide) (fun c1 => ?_) (fun c1 => ?_)
  · replace hQ := hQ.1 c1
    refine ev_iconst (1) dL_isBoard_52 rfl ?_
    refine ev_istore dL_isBoard_53 (Nat.le_of_ble_eq_true rfl) (ev_hw rfl) ?_
    show ev_E g m_L_isBoard 6 (B + 1) 55 [some (ev_o 9 b0), some (ev_o 11 b1), some (ev_i u2), some (ev_o 10 w3), some (ev_i u4), some (ev_i 1), none, none, none] [] S Q
    exact hQ
  · replace hQ := hQ.2 c1
    refine ev_aload_n (ev_o 9 b0) dL_isBoard_27 rfl rfl ?_
    refine ev_iload_n (u2) dL_isBoard_28 rfl ?_
    refine ev_iload (u5) dL_isBoard_29 rfl ?_
    refine ev_cV mv_X9_bishopOwner 4 1 9 [ev_i u2, ev_i u5] [] dL_isBoard_31 kw_950 rfl (by decide) rfl (by decide) (by omega) (Nat.le_of_ble_eq_true rfl) hQ ?_ rfl
    rintro o S1 ⟨v1_, rfl, hQ⟩
    show ev_E g m_L_isBoard 6 B 34 [some (ev_o 9 b0), some (ev_o 11 b1), some (ev_i u2), some (ev_o 10 w3), some (ev_i u4), some (ev_i u5), none, none, none] [ev_i v1_] S1 Q
    refine ev_aload_n (ev_o 10 w3) dL_isBoard_34 rfl rfl ?_
    refine gn_10_0 dL_isBoard_35 (List.mem_of_getElem? (i := 0) rfl) ?_
    refine ev_iload (u5) dL_isBoard_38 rfl ?_
    obtain ⟨h1, hQ⟩ := hQ
    refine ev_iaload dL_isBoard_40 h1 ?_
    refine ev_icmp_eq 46 dL_isBoard_41 (by decide) (fun c2 => ?_) (fun c2 => ?_)
    · replace hQ := hQ.1 c2
      refine ev_iinc u5 (1) dL_isBoard_46 rfl (by decide) (ev_hw rfl) ?_
      show ev_E g m_L_isBoard 6 B 49 [some (ev_o 9 b0), some (ev_o 11 b1), some (ev_i u2), some (ev_o 10 w3), some (ev_i u4), some (ev_i (u5 + 1)), none, none, none] [] S1 Q
      refine ev_goto 13 dL_isBoard_49 (by decide) ?_
      exact hQ
    · replace hQ := hQ.2 c2
      refine ev_iconst (0) dL_isBoard_44 rfl ?_
      exact ev_ireturn .boolean dL_isBoard_45 rfl rfl hQ
set_option maxHeartbeats 4000000 in
set_option maxRecDepth 100000 in
theorem sg_L_isBoard_55 {g : ev_G} {S : ev_S} {Q : ev_O → ev_S → Prop} {B : Nat} (b0 : Nat) (b1 : Nat) (u2 : Int32) (w3 : Nat) (u4 : Int32) (u5 : Int32) (hQ : ((S.1 b1 1) < u5 → (
    ev_E g m_L_isBoard 6 B 93 [some (ev_o 9 b0), some (ev_o 11 b1), some (ev_i u2), some (ev_o 10 w3), some (ev_i u4), some (ev_i 1), none, none, none] [] S Q)) ∧
  (¬ ((S.1 b1 1) < u5) → (
    (vp_in u5 61) ∧ (
      ((S.1 (w3 + 4) u5.toNatClampNeg) < 0 → (
        ev_E g m_L_isBoard 6 B 84 [some (ev_o 9 b0), some (ev_o 11 b1), some (ev_i u2), some (ev_o 10 w3), some (ev_i (u4 + 0)), some (ev_i u5), none, none, none] [] S Q)) ∧
      (¬ ((S.1 (w3 + 4) u5.toNatClampNeg) < 0) → (
        ev_E g m_L_isBoard 6 B 84 [some (ev_o 9 b0), some (ev_o 11 b1), some (ev_i u2), some (ev_o 10 w3), some (ev_i (u4 + 1)), some (ev_i u5), none, none, none] [] S Q)))))) : ev_E g m_L_isBoard 6 B 55 [some (ev_o 9 b0), some (ev_o 11 b1), some (ev_i u2), some (ev_o 10 w3), some (ev_i u4), some (ev_i u5), none, none, none] [] S Q := by
  refine ev_iload (u5) dL_isBoard_55 rfl ?_
  refine ev_aload_n (ev_o 11 b1) dL_isBoard_57 rfl rfl ?_
  refine gn_11_1 dL_isBoard_58 (List.mem_of_getElem? (i := 22) rfl) ?_
  refine ev_icmp_gt 90 dL_isBoard_61 (by decide) (fun c1 => ?_) (fun c1 => ?_)
  · replace hQ := hQ.1 c1
    refine ev_iconst (1) dL_isBoard_90 rfl ?_
    refine ev_istore dL_isBoard_91 (Nat.le_of_ble_eq_true rfl) (ev_hw rfl) ?_
    show ev_E g m_L_isBoard 6 B 93 [some (ev_o 9 b0), some (ev_o 11 b1), some (ev_i u2), some (ev_o 10 w3), some (ev_i u4), some (ev_i 1), none, none, none] [] S Q
    exact hQ
  · replace hQ := hQ.2 c1
    refine ev_iload (u4) dL_isBoard_64 rfl ?_
    refine ev_aload_n (ev_o 10 w3) dL_isBoard_66 rfl rfl ?_
    refine gn_10_3 dL_isBoard_67 (List.mem_of_getElem? (i := 6) rfl) ?_
    refine ev_iload (u5) dL_isBoard_70 rfl ?_
    obtain ⟨h1, hQ⟩ := hQ
    refine ev_iaload dL_isBoard_72 h1 ?_
    refine ev_if_lt 80 dL_isBoard_73 (by decide) (fun c2 => ?_) (fun c2 => ?_)
    · replace hQ := hQ.1 c2
      refine ev_iconst (0) dL_isBoard_80 rfl ?_
      refine ev_iadd dL_isBoard_81 ?_
      refine ev_istore dL_isBoard_82 (Nat.le_of_ble_eq_true rfl) (ev_hw rfl) ?_
      show ev_E g m_L_isBoard 6 B 84 [some (ev_o 9 b0), some (ev_o 11 b1), some (ev_i u2), some (ev_o 10 w3), some (ev_i (u4 + 0)), some (ev_i u5), none, none, none] [] S Q
      exact hQ
    · replace hQ := hQ.2 c2
      refine ev_iconst (1) dL_isBoard_76 rfl ?_
      refine ev_goto 81 dL_isBoard_77 (by decide) ?_
      refine ev_iadd dL_isBoard_81 ?_
      refine ev_istore dL_isBoard_82 (Nat.le_of_ble_eq_true rfl) (ev_hw rfl) ?_
      show ev_E g m_L_isBoard 6 B 84 [some (ev_o 9 b0), some (ev_o 11 b1), some (ev_i u2), some (ev_o 10 w3), some (ev_i (u4 + 1)), some (ev_i u5), none, none, none] [] S Q
      exact hQ
set_option maxHeartbeats 4000000 in
set_option maxRecDepth 100000 in
theorem sg_L_isBoard_93 {g : ev_G} {S : ev_S} {Q : ev_O → ev_S → Prop} {B : Nat} (b0 : Nat) (b1 : Nat) (u2 : Int32) (w3 : Nat) (u4 : Int32) (u5 : Int32) (hQ : ((S.1 w3 6) < u5 → (
    ev_Cv g m_X10_bishops 1 0 [ev_o 10 w3, ev_i 0] S (fun o S1 => ∃ v1_ : Int32, o = .inl (some (ev_i v1_)) ∧ (
      ev_Cv g m_X10_bishops 1 0 [ev_o 10 w3, ev_i 1] S1 (fun o S2 => ∃ v2_ : Int32, o = .inl (some (ev_i v2_)) ∧ (
        ev_Cv g m_X11_awaited 1 0 [ev_o 11 b1, ev_i u2] S2 (fun o S3 => ∃ v3_ : Int32, o = .inl (some (ev_i v3_)) ∧ (
          ev_Cv g m_X11_isTurn 3 0 [ev_o 11 b1, ev_i u2] S3 (fun o S4 => ∃ v4_ : Bool, o = .inl (some (ev_i (if v4_ = true then 1 else 0))) ∧ (
            (v4_ = true → (
              ev_E g m_L_isBoard 6 (B + 4) 208 [some (ev_o 9 b0), some (ev_o 11 b1), some (ev_i u2), some (ev_o 10 w3), some (ev_i u4), some (ev_i (v1_ - v2_)), some (ev_i v3_), some (ev_i 0), none] [] S4 Q)) ∧
            (¬ (v4_ = true) → (
              ev_Cv g m_X11_isOver 2 0 [ev_o 11 b1, ev_i u2] S4 (fun o S5 => ∃ v5_ : Bool, o = .inl (some (ev_i (if v5_ = true then 1 else 0))) ∧ (
                (v5_ = true → (
                  ev_E g m_L_isBoard 6 (B + 4) 208 [some (ev_o 9 b0), some (ev_o 11 b1), some (ev_i u2), some (ev_o 10 w3), some (ev_i u4), some (ev_i (v1_ - v2_)), some (ev_i v3_), some (ev_i 1), none] [] S5 Q)) ∧
                (¬ (v5_ = true) → (
                  (0 ≤ v3_ → (
                    (vp_in v3_ 81) ∧ (
                      ev_E g m_L_isBoard 6 (B + 4) 208 [some (ev_o 9 b0), some (ev_o 11 b1), some (ev_i u2), some (ev_o 10 w3), some (ev_i u4), some (ev_i (v1_ - v2_)), some (ev_i v3_), some (ev_i (3 + (S5.1 (b1 + 24) v3_.toNatClampNeg))), none] [] S5 Q))) ∧
                  (¬ (0 ≤ v3_) → (
                    ev_E g m_L_isBoard 6 (B + 4) 208 [some (ev_o 9 b0), some (ev_o 11 b1), some (ev_i u2), some (ev_o 10 w3), some (ev_i u4), some (ev_i (v1_ - v2_)), some (ev_i v3_), some (ev_i 2), none] [] S5 Q)))))))))))))))))) ∧
  (¬ ((S.1 w3 6) < u5) → (
    ev_Cv g m_X9_movedFrom 4 2 [ev_o 9 b0, ev_i u2, ev_i u5] S (fun o S6 => ∃ v6_ : Int32, o = .inl (some (ev_i v6_)) ∧ (
      (vp_in u5 61) ∧ (
        (v6_ = (S6.1 (w3 + 2) u5.toNatClampNeg) → (
          ev_Cv g m_X9_movedTo 4 2 [ev_o 9 b0, ev_i u2, ev_i u5] S6 (fun o S7 => ∃ v7_ : Int32, o = .inl (some (ev_i v7_)) ∧ (
            (v7_ = (S7.1 (w3 + 3) u5.toNatClampNeg) → (
              ev_E g m_L_isBoard 6 B 93 [some (ev_o 9 b0), some (ev_o 11 b1), some (ev_i u2), some (ev_o 10 w3), some (ev_i u4), some (ev_i (u5 + 1)), none, none, none] [] S7 Q)) ∧
            (¬ (v7_ = (S7.1 (w3 + 3) u5.toNatClampNeg)) → (
              Q (.inl (some (ev_i 0))) S7)))))) ∧
        (¬ (v6_ = (S6.1 (w3 + 2) u5.toNatClampNeg)) → (
          Q (.inl (some (ev_i 0))) S6)))))))) : ev_E g m_L_isBoard 6 (B + 4) 93 [some (ev_o 9 b0), some (ev_o 11 b1), some (ev_i u2), some (ev_o 10 w3), some (ev_i u4), some (ev_i u5), none, none, none] [] S Q := by
  refine ev_iload (u5) dL_isBoard_93 rfl ?_
  refine ev_aload_n (ev_o 10 w3) dL_isBoard_95 rfl rfl ?_
  refine gn_10_6 dL_isBoard_96 (List.mem_of_getElem? (i := 11) rfl) ?_
  refine ev_icmp_gt 144 dL_isBoard_99 (by decide) (fun c1 => ?_) (fun c1 => ?_)
  · replace hQ := hQ.1 c1
    refine ev_aload_n (ev_o 10 w3) dL_isBoard_144 rfl rfl ?_
    refine ev_iconst (0) dL_isBoard_145 rfl ?_
    refine ev_cV mv_X10_bishops 1 0 10 [ev_i 0] [] dL_isBoard_146 kw_1023 rfl (by decide) rfl (by decide) (by omega) (Nat.le_of_ble_eq_true rfl) hQ ?_ rfl
    rintro o S1 ⟨v1_, rfl, hQ⟩
    show ev_E g m_L_isBoard 6 (B + 4) 149 [some (ev_o 9 b0), some (ev_o 11 b1), some (ev_i u2), some (ev_o 10 w3), some (ev_i u4), some (ev_i u5), none, none, none] [ev_i v1_] S1 Q
    refine ev_aload_n (ev_o 10 w3) dL_isBoard_149 rfl rfl ?_
    refine ev_iconst (1) dL_isBoard_150 rfl ?_
    refine ev_cV mv_X10_bishops 1 0 10 [ev_i 1] [ev_i v1_] dL_isBoard_151 kw_1023 rfl (by decide) rfl (by decide) (by omega) (Nat.le_of_ble_eq_true rfl) hQ ?_ rfl
    rintro o S2 ⟨v2_, rfl, hQ⟩
    show ev_E g m_L_isBoard 6 (B + 4) 154 [some (ev_o 9 b0), some (ev_o 11 b1), some (ev_i u2), some (ev_o 10 w3), some (ev_i u4), some (ev_i u5), none, none, none] [ev_i v2_, ev_i v1_] S2 Q
    refine ev_isub dL_isBoard_154 ?_
    refine ev_istore dL_isBoard_155 (Nat.le_of_ble_eq_true rfl) (ev_hw rfl) ?_
    show ev_E g m_L_isBoard 6 (B + 4) 157 [some (ev_o 9 b0), some (ev_o 11 b1), some (ev_i u2), some (ev_o 10 w3), some (ev_i u4), some (ev_i (v1_ - v2_)), none, none, none] [] S2 Q
    refine ev_aload_n (ev_o 11 b1) dL_isBoard_157 rfl rfl ?_
    refine ev_iload_n (u2) dL_isBoard_158 rfl ?_
    refine ev_cV mv_X11_awaited 1 0 11 [ev_i u2] [] dL_isBoard_159 kw_1027 rfl (by decide) rfl (by decide) (by omega) (Nat.le_of_ble_eq_true rfl) hQ ?_ rfl
    rintro o S3 ⟨v3_, rfl, hQ⟩
    show ev_E g m_L_isBoard 6 (B + 4) 162 [some (ev_o 9 b0), some (ev_o 11 b1), some (ev_i u2), some (ev_o 10 w3), some (ev_i u4), some (ev_i (v1_ - v2_)), none, none, none] [ev_i v3_] S3 Q
    refine ev_istore dL_isBoard_162 (Nat.le_of_ble_eq_true rfl) (ev_hw rfl) ?_
    show ev_E g m_L_isBoard 6 (B + 4) 164 [some (ev_o 9 b0), some (ev_o 11 b1), some (ev_i u2), some (ev_o 10 w3), some (ev_i u4), some (ev_i (v1_ - v2_)), some (ev_i v3_), none, none] [] S3 Q
    refine ev_aload_n (ev_o 11 b1) dL_isBoard_164 rfl rfl ?_
    refine ev_iload_n (u2) dL_isBoard_165 rfl ?_
    refine ev_cV mv_X11_isTurn 3 0 11 [ev_i u2] [] dL_isBoard_166 kw_1031 rfl (by decide) rfl (by decide) (by omega) (Nat.le_of_ble_eq_true rfl) hQ ?_ rfl
    rintro o S4 ⟨v4_, rfl, hQ⟩
    show ev_E g m_L_isBoard 6 (B + 4) 169 [some (ev_o 9 b0), some (ev_o 11 b1), some (ev_i u2), some (ev_o 10 w3), some (ev_i u4), some (ev_i (v1_ - v2_)), some (ev_i v3_), none, none] [ev_i (if v4_ = true then 1 else 0)] S4 Q
    by_cases c2 : v4_ = true
    · rw [if_pos c2]
      replace hQ := hQ.1 c2
      refine ev_if_eq 176 dL_isBoard_169 (by decide) (fun h9 => absurd h9 (by decide : ¬ ((1 : Int32) = 0))) (fun _ => ?_)
      refine ev_iconst (0) dL_isBoard_172 rfl ?_
      refine ev_goto 206 dL_isBoard_173 (by decide) ?_
      refine ev_istore dL_isBoard_206 (Nat.le_of_ble_eq_true rfl) (ev_hw rfl) ?_
      show ev_E g m_L_isBoard 6 (B + 4) 208 [some (ev_o 9 b0), some (ev_o 11 b1), some (ev_i u2), some (ev_o 10 w3), some (ev_i u4), some (ev_i (v1_ - v2_)), some (ev_i v3_), some (ev_i 0), none] [] S4 Q
      exact hQ
    · rw [if_neg c2]
      replace hQ := hQ.2 c2
      refine ev_if_eq 176 dL_isBoard_169 (by decide) (fun _ => ?_) (fun h9 => absurd (by decide : ((0 : Int32) = 0)) h9)
      refine ev_aload_n (ev_o 11 b1) dL_isBoard_176 rfl rfl ?_
      refine ev_iload_n (u2) dL_isBoard_177 rfl ?_
      refine ev_cV mv_X11_isOver 2 0 11 [ev_i u2] [] dL_isBoard_178 kw_1040 rfl (by decide) rfl (by decide) (by omega) (Nat.le_of_ble_eq_true rfl) hQ ?_ rfl
      rintro o S5 ⟨v5_, rfl, hQ⟩
      show ev_E g m_L_isBoard 6 (B + 4) 181 [some (ev_o 9 b0), some (ev_o 11 b1), some (ev_i u2), some (ev_o 10 w3), some (ev_i u4), some (ev_i (v1_ - v2_)), some (ev_i v3_), none, none] [ev_i (if v5_ = true then 1 else 0)] S5 Q
      by_cases c3 : v5_ = true
      · rw [if_pos c3]
        replace hQ := hQ.1 c3
        refine ev_if_eq 188 dL_isBoard_181 (by decide) (fun h9 => absurd h9 (by decide : ¬ ((1 : Int32) = 0))) (fun _ => ?_)
        refine ev_iconst (1) dL_isBoard_184 rfl ?_
        refine ev_goto 206 dL_isBoard_185 (by decide) ?_
        refine ev_istore dL_isBoard_206 (Nat.le_of_ble_eq_true rfl) (ev_hw rfl) ?_
        show ev_E g m_L_isBoard 6 (B + 4) 208 [some (ev_o 9 b0), some (ev_o 11 b1), some (ev_i u2), some (ev_o 10 w3), some (ev_i u4), some (ev_i (v1_ - v2_)), some (ev_i v3_), some (ev_i 1), none] [] S5 Q
        exact hQ
      · rw [if_neg c3]
        replace hQ := hQ.2 c3
        refine ev_if_eq 188 dL_isBoard_181 (by decide) (fun _ => ?_) (fun h9 => absurd (by decide : ((0 : Int32) = 0)) h9)
        refine ev_iload (v3_) dL_isBoard_188 rfl ?_
        refine ev_if_ge 197 dL_isBoard_190 (by decide) (fun c4 => ?_) (fun c4 => ?_)
        · replace hQ := hQ.1 c4
          refine ev_iconst (3) dL_isBoard_197 rfl ?_
          refine ev_aload_n (ev_o 11 b1) dL_isBoard_198 rfl rfl ?_
          refine gn_11_20 dL_isBoard_199 (List.mem_of_getElem? (i := 39) rfl) ?_
          refine ev_iload (v3_) dL_isBoard_202 rfl ?_
          obtain ⟨h1, hQ⟩ := hQ
          refine ev_iaload dL_isBoard_204 h1 ?_
          refine ev_iadd dL_isBoard_205 ?_
          refine ev_istore dL_isBoard_206 (Nat.le_of_ble_eq_true rfl) (ev_hw rfl) ?_
          show ev_E g m_L_isBoard 6 (B + 4) 208 [some (ev_o 9 b0), some (ev_o 11 b1), some (ev_i u2), some (ev_o 10 w3), some (ev_i u4), some (ev_i (v1_ - v2_)), some (ev_i v3_), some (ev_i (3 + (S5.1 (b1 + 24) v3_.toNatClampNeg))), none] [] S5 Q
          exact hQ
        · replace hQ := hQ.2 c4
          refine ev_iconst (2) dL_isBoard_193 rfl ?_
          refine ev_goto 206 dL_isBoard_194 (by decide) ?_
          refine ev_istore dL_isBoard_206 (Nat.le_of_ble_eq_true rfl) (ev_hw rfl) ?_
          show ev_E g m_L_isBoard 6 (B + 4) 208 [some (ev_o 9 b0), some (ev_o 11 b1), some (ev_i u2), some (ev_o 10 w3), some (ev_i u4), some (ev_i (v1_ - v2_)), some (ev_i v3_), some (ev_i 2), none] [] S5 Q
          exact hQ
  · replace hQ := hQ.2 c1
    refine ev_aload_n (ev_o 9 b0) dL_isBoard_102 rfl rfl ?_
    refine ev_iload_n (u2) dL_isBoard_103 rfl ?_
    refine ev_iload (u5) dL_isBoard_104 rfl ?_
    refine ev_cV mv_X9_movedFrom 4 2 9 [ev_i u2, ev_i u5] [] dL_isBoard_106 kw_985 rfl (by decide) rfl (by decide) (by omega) (Nat.le_of_ble_eq_true rfl) hQ ?_ rfl
    rintro o S6 ⟨v6_, rfl, hQ⟩
    show ev_E g m_L_isBoard 6 (B + 2) 109 [some (ev_o 9 b0), some (ev_o 11 b1), some (ev_i u2), some (ev_o 10 w3), some (ev_i u4), some (ev_i u5), none, none, none] [ev_i v6_] S6 Q
    refine ev_aload_n (ev_o 10 w3) dL_isBoard_109 rfl rfl ?_
    refine gn_10_1 dL_isBoard_110 (List.mem_of_getElem? (i := 3) rfl) ?_
    refine ev_iload (u5) dL_isBoard_113 rfl ?_
    obtain ⟨h2, hQ⟩ := hQ
    refine ev_iaload dL_isBoard_115 h2 ?_
    refine ev_icmp_ne 136 dL_isBoard_116 (by decide) (fun c5 => ?_) (fun c5 => ?_)
    · replace hQ := hQ.2 c5
      refine ev_iconst (0) dL_isBoard_136 rfl ?_
      exact ev_ireturn .boolean dL_isBoard_137 rfl rfl hQ
    · replace hQ := hQ.1 c5
      refine ev_aload_n (ev_o 9 b0) dL_isBoard_119 rfl rfl ?_
      refine ev_iload_n (u2) dL_isBoard_120 rfl ?_
      refine ev_iload (u5) dL_isBoard_121 rfl ?_
      refine ev_cV mv_X9_movedTo 4 2 9 [ev_i u2, ev_i u5] [] dL_isBoard_123 kw_1016 rfl (by decide) rfl (by decide) (by omega) (Nat.le_of_ble_eq_true rfl) hQ ?_ rfl
      rintro o S7 ⟨v7_, rfl, hQ⟩
      show ev_E g m_L_isBoard 6 B 126 [some (ev_o 9 b0), some (ev_o 11 b1), some (ev_i u2), some (ev_o 10 w3), some (ev_i u4), some (ev_i u5), none, none, none] [ev_i v7_] S7 Q
      refine ev_aload_n (ev_o 10 w3) dL_isBoard_126 rfl rfl ?_
      refine gn_10_2 dL_isBoard_127 (List.mem_of_getElem? (i := 5) rfl) ?_
      refine ev_iload (u5) dL_isBoard_130 rfl ?_
      refine ev_iaload dL_isBoard_132 h2 ?_
      refine ev_icmp_eq 138 dL_isBoard_133 (by decide) (fun c6 => ?_) (fun c6 => ?_)
      · replace hQ := hQ.1 c6
        refine ev_iinc u5 (1) dL_isBoard_138 rfl (by decide) (ev_hw rfl) ?_
        show ev_E g m_L_isBoard 6 B 141 [some (ev_o 9 b0), some (ev_o 11 b1), some (ev_i u2), some (ev_o 10 w3), some (ev_i u4), some (ev_i (u5 + 1)), none, none, none] [] S7 Q
        refine ev_goto 93 dL_isBoard_141 (by decide) ?_
        exact hQ
      · replace hQ := hQ.2 c6
        refine ev_iconst (0) dL_isBoard_136 rfl ?_
        exact ev_ireturn .boolean dL_isBoard_137 rfl rfl hQ
set_option maxHeartbeats 4000000 in
set_option maxRecDepth 100000 in
theorem sg_L_isBoard_84 {g : ev_G} {S : ev_S} {Q : ev_O → ev_S → Prop} {B : Nat} (b0 : Nat) (b1 : Nat) (u2 : Int32) (w3 : Nat) (u4 : Int32) (u5 : Int32) (hQ : ev_E g m_L_isBoard 6 B 55 [some (ev_o 9 b0), some (ev_o 11 b1), some (ev_i u2), some (ev_o 10 w3), some (ev_i u4), some (ev_i (u5 + 1)), none, none, none] [] S Q) : ev_E g m_L_isBoard 6 B 84 [some (ev_o 9 b0), some (ev_o 11 b1), some (ev_i u2), some (ev_o 10 w3), some (ev_i u4), some (ev_i u5), none, none, none] [] S Q := by
  refine ev_iinc u5 (1) dL_isBoard_84 rfl (by decide) (ev_hw rfl) ?_
  show ev_E g m_L_isBoard 6 B 87 [some (ev_o 9 b0), some (ev_o 11 b1), some (ev_i u2), some (ev_o 10 w3), some (ev_i u4), some (ev_i (u5 + 1)), none, none, none] [] S Q
  refine ev_goto 55 dL_isBoard_87 (by decide) ?_
  exact hQ
set_option maxHeartbeats 4000000 in
set_option maxRecDepth 100000 in
theorem sg_L_isBoard_208 {g : ev_G} {S : ev_S} {Q : ev_O → ev_S → Prop} {B : Nat} (b0 : Nat) (b1 : Nat) (u2 : Int32) (w3 : Nat) (u4 : Int32) (u5 : Int32) (u6 : Int32) (u7 : Int32) (hQ : ev_Cv g m_X9_bishopCount 3 1 [ev_o 9 b0, ev_i u2, ev_i 0] S (fun o S1 => ∃ v1_ : Int32, o = .inl (some (ev_i v1_)) ∧ (
    ev_Cv g m_X10_bishops 1 0 [ev_o 10 w3, ev_i 0] S1 (fun o S2 => ∃ v2_ : Int32, o = .inl (some (ev_i v2_)) ∧ (
      (v1_ = v2_ → (
        ev_Cv g m_X9_bishopCount 3 1 [ev_o 9 b0, ev_i u2, ev_i 1] S2 (fun o S3 => ∃ v3_ : Int32, o = .inl (some (ev_i v3_)) ∧ (
          ev_Cv g m_X10_bishops 1 0 [ev_o 10 w3, ev_i 1] S3 (fun o S4 => ∃ v4_ : Int32, o = .inl (some (ev_i v4_)) ∧ (
            (v3_ = v4_ → (
              ev_Cv g m_X9_moveCount 3 1 [ev_o 9 b0, ev_i u2] S4 (fun o S5 => ∃ v5_ : Int32, o = .inl (some (ev_i v5_)) ∧ (
                (v5_ = (S5.1 w3 6) → (
                  ev_Cv g m_X9_isTurn 5 1 [ev_o 9 b0, ev_i u2] S5 (fun o S6 => ∃ v6_ : Bool, o = .inl (some (ev_i (if v6_ = true then 1 else 0))) ∧ (
                    (v6_ = true → (
                      ev_Cv g m_X11_isTurn 3 0 [ev_o 11 b1, ev_i u2] S6 (fun o S7 => ∃ v7_ : Bool, o = .inl (some (ev_i (if v7_ = true then 1 else 0))) ∧ (
                        (v7_ = true → (
                          ev_Cv g m_X9_isOver 4 1 [ev_o 9 b0, ev_i u2] S7 (fun o S8 => ∃ v8_ : Bool, o = .inl (some (ev_i (if v8_ = true then 1 else 0))) ∧ (
                            (v8_ = true → (
                              ev_Cv g m_X11_isOver 2 0 [ev_o 11 b1, ev_i u2] S8 (fun o S9 => ∃ v9_ : Bool, o = .inl (some (ev_i (if v9_ = true then 1 else 0))) ∧ (
                                (v9_ = true → (
                                  ev_Cv g m_X9_winner 4 1 [ev_o 9 b0, ev_i u2] S9 (fun o S10 => ∃ v10_ : Int32, o = .inl (some (ev_i v10_)) ∧ (
                                    ev_Cv g m_X11_isOver 2 0 [ev_o 11 b1, ev_i u2] S10 (fun o S11 => ∃ v11_ : Bool, o = .inl (some (ev_i (if v11_ = true then 1 else 0))) ∧ (
                                      (v11_ = true → (
                                        (u5 = 0 → (
                                          (v10_ = (-1) → (
                                            ev_Cv g m_X9_storedMoves 2 1 [ev_o 9 b0, ev_i u2] S11 (fun o S14 => ∃ v14_ : Int32, o = .inl (some (ev_i v14_)) ∧ (
                                              (v14_ = u4 → (
                                                ev_E g m_L_isBoard 6 B 326 [some (ev_o 9 b0), none, some (ev_i u2), some (ev_o 10 w3), none, none, some (ev_i u6), some (ev_i u7), some (ev_i 1)] [] S14 Q)) ∧
                                              (¬ (v14_ = u4) → (
                                                ev_E g m_L_isBoard 6 B 326 [some (ev_o 9 b0), none, some (ev_i u2), some (ev_o 10 w3), none, none, some (ev_i u6), some (ev_i u7), some (ev_i 0)] [] S14 Q)))))) ∧
                                          (¬ (v10_ = (-1)) → (
                                            ev_E g m_L_isBoard 6 (B + 1) 326 [some (ev_o 9 b0), none, some (ev_i u2), some (ev_o 10 w3), none, none, some (ev_i u6), some (ev_i u7), some (ev_i 0)] [] S11 Q)))) ∧
                                        (¬ (u5 = 0) → (
                                          (u5 ≤ 0 → (
                                            (v10_ = 1 → (
                                              ev_Cv g m_X9_storedMoves 2 1 [ev_o 9 b0, ev_i u2] S11 (fun o S12 => ∃ v12_ : Int32, o = .inl (some (ev_i v12_)) ∧ (
                                                (v12_ = u4 → (
                                                  ev_E g m_L_isBoard 6 B 326 [some (ev_o 9 b0), none, some (ev_i u2), some (ev_o 10 w3), none, none, some (ev_i u6), some (ev_i u7), some (ev_i 1)] [] S12 Q)) ∧
                                                (¬ (v12_ = u4) → (
                                                  ev_E g m_L_isBoard 6 B 326 [some (ev_o 9 b0), none, some (ev_i u2), some (ev_o 10 w3), none, none, some (ev_i u6), some (ev_i u7), some (ev_i 0)] [] S12 Q)))))) ∧
                                            (¬ (v10_ = 1) → (
                                              ev_E g m_L_isBoard 6 (B + 1) 326 [some (ev_o 9 b0), none, some (ev_i u2), some (ev_o 10 w3), none, none, some (ev_i u6), some (ev_i u7), some (ev_i 0)] [] S11 Q)))) ∧
                                          (¬ (u5 ≤ 0) → (
                                            (v10_ = 0 → (
                                              ev_Cv g m_X9_storedMoves 2 1 [ev_o 9 b0, ev_i u2] S11 (fun o S13 => ∃ v13_ : Int32, o = .inl (some (ev_i v13_)) ∧ (
                                                (v13_ = u4 → (
                                                  ev_E g m_L_isBoard 6 B 326 [some (ev_o 9 b0), none, some (ev_i u2), some (ev_o 10 w3), none, none, some (ev_i u6), some (ev_i u7), some (ev_i 1)] [] S13 Q)) ∧
                                                (¬ (v13_ = u4) → (
                                                  ev_E g m_L_isBoard 6 B 326 [some (ev_o 9 b0), none, some (ev_i u2), some (ev_o 10 w3), none, none, some (ev_i u6), some (ev_i u7), some (ev_i 0)] [] S13 Q)))))) ∧
                                            (¬ (v10_ = 0) → (
                                              ev_E g m_L_isBoard 6 (B + 1) 326 [some (ev_o 9 b0), none, some (ev_i u2), some (ev_o 10 w3), none, none, some (ev_i u6), some (ev_i u7), some (ev_i 0)] [] S11 Q)))))))) ∧
                                      (¬ (v11_ = true) → (
                                        (v10_ = (-1) → (
                                          ev_Cv g m_X9_storedMoves 2 1 [ev_o 9 b0, ev_i u2] S11 (fun o S15 => ∃ v15_ : Int32, o = .inl (some (ev_i v15_)) ∧ (
                                            (v15_ = u4 → (
                                              ev_E g m_L_isBoard 6 B 326 [some (ev_o 9 b0), none, some (ev_i u2), some (ev_o 10 w3), none, none, some (ev_i u6), some (ev_i u7), some (ev_i 1)] [] S15 Q)) ∧
                                            (¬ (v15_ = u4) → (
                                              ev_E g m_L_isBoard 6 B 326 [some (ev_o 9 b0), none, some (ev_i u2), some (ev_o 10 w3), none, none, some (ev_i u6), some (ev_i u7), some (ev_i 0)] [] S15 Q)))))) ∧
                                        (¬ (v10_ = (-1)) → (
                                          ev_E g m_L_isBoard 6 (B + 1) 326 [some (ev_o 9 b0), none, some (ev_i u2), some (ev_o 10 w3), none, none, some (ev_i u6), some (ev_i u7), some (ev_i 0)] [] S11 Q)))))))))) ∧
                                (¬ (v9_ = true) → (
                                  ev_E g m_L_isBoard 6 (B + 2) 326 [some (ev_o 9 b0), none, some (ev_i u2), some (ev_o 10 w3), none, none, some (ev_i u6), some (ev_i u7), some (ev_i 0)] [] S9 Q)))))) ∧
                            (¬ (v8_ = true) → (
                              ev_Cv g m_X11_isOver 2 0 [ev_o 11 b1, ev_i u2] S8 (fun o S16 => ∃ v16_ : Bool, o = .inl (some (ev_i (if v16_ = true then 1 else 0))) ∧ (
                                (v16_ = true → (
                                  ev_E g m_L_isBoard 6 (B + 2) 326 [some (ev_o 9 b0), none, some (ev_i u2), some (ev_o 10 w3), none, none, some (ev_i u6), some (ev_i u7), some (ev_i 0)] [] S16 Q)) ∧
                                (¬ (v16_ = true) → (
                                  ev_Cv g m_X9_winner 4 1 [ev_o 9 b0, ev_i u2] S16 (fun o S17 => ∃ v17_ : Int32, o = .inl (some (ev_i v17_)) ∧ (
                                    ev_Cv g m_X11_isOver 2 0 [ev_o 11 b1, ev_i u2] S17 (fun o S18 => ∃ v18_ : Bool, o = .inl (some (ev_i (if v18_ = true then 1 else 0))) ∧ (
                                      (v18_ = true → (
                                        (u5 = 0 → (
                                          (v17_ = (-1) → (
                                            ev_Cv g m_X9_storedMoves 2 1 [ev_o 9 b0, ev_i u2] S18 (fun o S21 => ∃ v21_ : Int32, o = .inl (some (ev_i v21_)) ∧ (
                                              (v21_ = u4 → (
                                                ev_E g m_L_isBoard 6 B 326 [some (ev_o 9 b0), none, some (ev_i u2), some (ev_o 10 w3), none, none, some (ev_i u6), some (ev_i u7), some (ev_i 1)] [] S21 Q)) ∧
                                              (¬ (v21_ = u4) → (
                                                ev_E g m_L_isBoard 6 B 326 [some (ev_o 9 b0), none, some (ev_i u2), some (ev_o 10 w3), none, none, some (ev_i u6), some (ev_i u7), some (ev_i 0)] [] S21 Q)))))) ∧
                                          (¬ (v17_ = (-1)) → (
                                            ev_E g m_L_isBoard 6 (B + 1) 326 [some (ev_o 9 b0), none, some (ev_i u2), some (ev_o 10 w3), none, none, some (ev_i u6), some (ev_i u7), some (ev_i 0)] [] S18 Q)))) ∧
                                        (¬ (u5 = 0) → (
                                          (u5 ≤ 0 → (
                                            (v17_ = 1 → (
                                              ev_Cv g m_X9_storedMoves 2 1 [ev_o 9 b0, ev_i u2] S18 (fun o S19 => ∃ v19_ : Int32, o = .inl (some (ev_i v19_)) ∧ (
                                                (v19_ = u4 → (
                                                  ev_E g m_L_isBoard 6 B 326 [some (ev_o 9 b0), none, some (ev_i u2), some (ev_o 10 w3), none, none, some (ev_i u6), some (ev_i u7), some (ev_i 1)] [] S19 Q)) ∧
                                                (¬ (v19_ = u4) → (
                                                  ev_E g m_L_isBoard 6 B 326 [some (ev_o 9 b0), none, some (ev_i u2), some (ev_o 10 w3), none, none, some (ev_i u6), some (ev_i u7), some (ev_i 0)] [] S19 Q)))))) ∧
                                            (¬ (v17_ = 1) → (
                                              ev_E g m_L_isBoard 6 (B + 1) 326 [some (ev_o 9 b0), none, some (ev_i u2), some (ev_o 10 w3), none, none, some (ev_i u6), some (ev_i u7), some (ev_i 0)] [] S18 Q)))) ∧
                                          (¬ (u5 ≤ 0) → (
                                            (v17_ = 0 → (
                                              ev_Cv g m_X9_storedMoves 2 1 [ev_o 9 b0, ev_i u2] S18 (fun o S20 => ∃ v20_ : Int32, o = .inl (some (ev_i v20_)) ∧ (
                                                (v20_ = u4 → (
                                                  ev_E g m_L_isBoard 6 B 326 [some (ev_o 9 b0), none, some (ev_i u2), some (ev_o 10 w3), none, none, some (ev_i u6), some (ev_i u7), some (ev_i 1)] [] S20 Q)) ∧
                                                (¬ (v20_ = u4) → (
                                                  ev_E g m_L_isBoard 6 B 326 [some (ev_o 9 b0), none, some (ev_i u2), some (ev_o 10 w3), none, none, some (ev_i u6), some (ev_i u7), some (ev_i 0)] [] S20 Q)))))) ∧
                                            (¬ (v17_ = 0) → (
                                              ev_E g m_L_isBoard 6 (B + 1) 326 [some (ev_o 9 b0), none, some (ev_i u2), some (ev_o 10 w3), none, none, some (ev_i u6), some (ev_i u7), some (ev_i 0)] [] S18 Q)))))))) ∧
                                      (¬ (v18_ = true) → (
                                        (v17_ = (-1) → (
                                          ev_Cv g m_X9_storedMoves 2 1 [ev_o 9 b0, ev_i u2] S18 (fun o S22 => ∃ v22_ : Int32, o = .inl (some (ev_i v22_)) ∧ (
                                            (v22_ = u4 → (
                                              ev_E g m_L_isBoard 6 B 326 [some (ev_o 9 b0), none, some (ev_i u2), some (ev_o 10 w3), none, none, some (ev_i u6), some (ev_i u7), some (ev_i 1)] [] S22 Q)) ∧
                                            (¬ (v22_ = u4) → (
                                              ev_E g m_L_isBoard 6 B 326 [some (ev_o 9 b0), none, some (ev_i u2), some (ev_o 10 w3), none, none, some (ev_i u6), some (ev_i u7), some (ev_i 0)] [] S22 Q)))))) ∧
                                        (¬ (v17_ = (-1)) → (
                                          ev_E g m_L_isBoard 6 (B + 1) 326 [some (ev_o 9 b0), none, some (ev_i u2), some (ev_o 10 w3), none, none, some (ev_i u6), some (ev_i u7), some (ev_i 0)] [] S18 Q)))))))))))))))))) ∧
                        (¬ (v7_ = true) → (
                          ev_E g m_L_isBoard 6 (B + 3) 326 [some (ev_o 9 b0), none, some (ev_i u2), some (ev_o 10 w3), none, none, some (ev_i u6), some (ev_i u7), some (ev_i 0)] [] S7 Q)))))) ∧
                    (¬ (v6_ = true) → (
                      ev_Cv g m_X11_isTurn 3 0 [ev_o 11 b1, ev_i u2] S6 (fun o S23 => ∃ v23_ : Bool, o = .inl (some (ev_i (if v23_ = true then 1 else 0))) ∧ (
                        (v23_ = true → (
                          ev_E g m_L_isBoard 6 (B + 3) 326 [some (ev_o 9 b0), none, some (ev_i u2), some (ev_o 10 w3), none, none, some (ev_i u6), some (ev_i u7), some (ev_i 0)] [] S23 Q)) ∧
                        (¬ (v23_ = true) → (
                          ev_Cv g m_X9_isOver 4 1 [ev_o 9 b0, ev_i u2] S23 (fun o S24 => ∃ v24_ : Bool, o = .inl (some (ev_i (if v24_ = true then 1 else 0))) ∧ (
                            (v24_ = true → (
                              ev_Cv g m_X11_isOver 2 0 [ev_o 11 b1, ev_i u2] S24 (fun o S25 => ∃ v25_ : Bool, o = .inl (some (ev_i (if v25_ = true then 1 else 0))) ∧ (
                                (v25_ = true → (
                                  ev_Cv g m_X9_winner 4 1 [ev_o 9 b0, ev_i u2] S25 (fun o S26 => ∃ v26_ : Int32, o = .inl (some (ev_i v26_)) ∧ (
                                    ev_Cv g m_X11_isOver 2 0 [ev_o 11 b1, ev_i u2] S26 (fun o S27 => ∃ v27_ : Bool, o = .inl (some (ev_i (if v27_ = true then 1 else 0))) ∧ (
                                      (v27_ = true → (
                                        (u5 = 0 → (
                                          (v26_ = (-1) → (
                                            ev_Cv g m_X9_storedMoves 2 1 [ev_o 9 b0, ev_i u2] S27 (fun o S30 => ∃ v30_ : Int32, o = .inl (some (ev_i v30_)) ∧ (
                                              (v30_ = u4 → (
                                                ev_E g m_L_isBoard 6 B 326 [some (ev_o 9 b0), none, some (ev_i u2), some (ev_o 10 w3), none, none, some (ev_i u6), some (ev_i u7), some (ev_i 1)] [] S30 Q)) ∧
                                              (¬ (v30_ = u4) → (
                                                ev_E g m_L_isBoard 6 B 326 [some (ev_o 9 b0), none, some (ev_i u2), some (ev_o 10 w3), none, none, some (ev_i u6), some (ev_i u7), some (ev_i 0)] [] S30 Q)))))) ∧
                                          (¬ (v26_ = (-1)) → (
                                            ev_E g m_L_isBoard 6 (B + 1) 326 [some (ev_o 9 b0), none, some (ev_i u2), some (ev_o 10 w3), none, none, some (ev_i u6), some (ev_i u7), some (ev_i 0)] [] S27 Q)))) ∧
                                        (¬ (u5 = 0) → (
                                          (u5 ≤ 0 → (
                                            (v26_ = 1 → (
                                              ev_Cv g m_X9_storedMoves 2 1 [ev_o 9 b0, ev_i u2] S27 (fun o S28 => ∃ v28_ : Int32, o = .inl (some (ev_i v28_)) ∧ (
                                                (v28_ = u4 → (
                                                  ev_E g m_L_isBoard 6 B 326 [some (ev_o 9 b0), none, some (ev_i u2), some (ev_o 10 w3), none, none, some (ev_i u6), some (ev_i u7), some (ev_i 1)] [] S28 Q)) ∧
                                                (¬ (v28_ = u4) → (
                                                  ev_E g m_L_isBoard 6 B 326 [some (ev_o 9 b0), none, some (ev_i u2), some (ev_o 10 w3), none, none, some (ev_i u6), some (ev_i u7), some (ev_i 0)] [] S28 Q)))))) ∧
                                            (¬ (v26_ = 1) → (
                                              ev_E g m_L_isBoard 6 (B + 1) 326 [some (ev_o 9 b0), none, some (ev_i u2), some (ev_o 10 w3), none, none, some (ev_i u6), some (ev_i u7), some (ev_i 0)] [] S27 Q)))) ∧
                                          (¬ (u5 ≤ 0) → (
                                            (v26_ = 0 → (
                                              ev_Cv g m_X9_storedMoves 2 1 [ev_o 9 b0, ev_i u2] S27 (fun o S29 => ∃ v29_ : Int32, o = .inl (some (ev_i v29_)) ∧ (
                                                (v29_ = u4 → (
                                                  ev_E g m_L_isBoard 6 B 326 [some (ev_o 9 b0), none, some (ev_i u2), some (ev_o 10 w3), none, none, some (ev_i u6), some (ev_i u7), some (ev_i 1)] [] S29 Q)) ∧
                                                (¬ (v29_ = u4) → (
                                                  ev_E g m_L_isBoard 6 B 326 [some (ev_o 9 b0), none, some (ev_i u2), some (ev_o 10 w3), none, none, some (ev_i u6), some (ev_i u7), some (ev_i 0)] [] S29 Q)))))) ∧
                                            (¬ (v26_ = 0) → (
                                              ev_E g m_L_isBoard 6 (B + 1) 326 [some (ev_o 9 b0), none, some (ev_i u2), some (ev_o 10 w3), none, none, some (ev_i u6), some (ev_i u7), some (ev_i 0)] [] S27 Q)))))))) ∧
                                      (¬ (v27_ = true) → (
                                        (v26_ = (-1) → (
                                          ev_Cv g m_X9_storedMoves 2 1 [ev_o 9 b0, ev_i u2] S27 (fun o S31 => ∃ v31_ : Int32, o = .inl (some (ev_i v31_)) ∧ (
                                            (v31_ = u4 → (
                                              ev_E g m_L_isBoard 6 B 326 [some (ev_o 9 b0), none, some (ev_i u2), some (ev_o 10 w3), none, none, some (ev_i u6), some (ev_i u7), some (ev_i 1)] [] S31 Q)) ∧
                                            (¬ (v31_ = u4) → (
                                              ev_E g m_L_isBoard 6 B 326 [some (ev_o 9 b0), none, some (ev_i u2), some (ev_o 10 w3), none, none, some (ev_i u6), some (ev_i u7), some (ev_i 0)] [] S31 Q)))))) ∧
                                        (¬ (v26_ = (-1)) → (
                                          ev_E g m_L_isBoard 6 (B + 1) 326 [some (ev_o 9 b0), none, some (ev_i u2), some (ev_o 10 w3), none, none, some (ev_i u6), some (ev_i u7), some (ev_i 0)] [] S27 Q)))))))))) ∧
                                (¬ (v25_ = true) → (
                                  ev_E g m_L_isBoard 6 (B + 2) 326 [some (ev_o 9 b0), none, some (ev_i u2), some (ev_o 10 w3), none, none, some (ev_i u6), some (ev_i u7), some (ev_i 0)] [] S25 Q)))))) ∧
                            (¬ (v24_ = true) → (
                              ev_Cv g m_X11_isOver 2 0 [ev_o 11 b1, ev_i u2] S24 (fun o S32 => ∃ v32_ : Bool, o = .inl (some (ev_i (if v32_ = true then 1 else 0))) ∧ (
                                (v32_ = true → (
                                  ev_E g m_L_isBoard 6 (B + 2) 326 [some (ev_o 9 b0), none, some (ev_i u2), some (ev_o 10 w3), none, none, some (ev_i u6), some (ev_i u7), some (ev_i 0)] [] S32 Q)) ∧
                                (¬ (v32_ = true) → (
                                  ev_Cv g m_X9_winner 4 1 [ev_o 9 b0, ev_i u2] S32 (fun o S33 => ∃ v33_ : Int32, o = .inl (some (ev_i v33_)) ∧ (
                                    ev_Cv g m_X11_isOver 2 0 [ev_o 11 b1, ev_i u2] S33 (fun o S34 => ∃ v34_ : Bool, o = .inl (some (ev_i (if v34_ = true then 1 else 0))) ∧ (
                                      (v34_ = true → (
                                        (u5 = 0 → (
                                          (v33_ = (-1) → (
                                            ev_Cv g m_X9_storedMoves 2 1 [ev_o 9 b0, ev_i u2] S34 (fun o S37 => ∃ v37_ : Int32, o = .inl (some (ev_i v37_)) ∧ (
                                              (v37_ = u4 → (
                                                ev_E g m_L_isBoard 6 B 326 [some (ev_o 9 b0), none, some (ev_i u2), some (ev_o 10 w3), none, none, some (ev_i u6), some (ev_i u7), some (ev_i 1)] [] S37 Q)) ∧
                                              (¬ (v37_ = u4) → (
                                                ev_E g m_L_isBoard 6 B 326 [some (ev_o 9 b0), none, some (ev_i u2), some (ev_o 10 w3), none, none, some (ev_i u6), some (ev_i u7), some (ev_i 0)] [] S37 Q)))))) ∧
                                          (¬ (v33_ = (-1)) → (
                                            ev_E g m_L_isBoard 6 (B + 1) 326 [some (ev_o 9 b0), none, some (ev_i u2), some (ev_o 10 w3), none, none, some (ev_i u6), some (ev_i u7), some (ev_i 0)] [] S34 Q)))) ∧
                                        (¬ (u5 = 0) → (
                                          (u5 ≤ 0 → (
                                            (v33_ = 1 → (
                                              ev_Cv g m_X9_storedMoves 2 1 [ev_o 9 b0, ev_i u2] S34 (fun o S35 => ∃ v35_ : Int32, o = .inl (some (ev_i v35_)) ∧ (
                                                (v35_ = u4 → (
                                                  ev_E g m_L_isBoard 6 B 326 [some (ev_o 9 b0), none, some (ev_i u2), some (ev_o 10 w3), none, none, some (ev_i u6), some (ev_i u7), some (ev_i 1)] [] S35 Q)) ∧
                                                (¬ (v35_ = u4) → (
                                                  ev_E g m_L_isBoard 6 B 326 [some (ev_o 9 b0), none, some (ev_i u2), some (ev_o 10 w3), none, none, some (ev_i u6), some (ev_i u7), some (ev_i 0)] [] S35 Q)))))) ∧
                                            (¬ (v33_ = 1) → (
                                              ev_E g m_L_isBoard 6 (B + 1) 326 [some (ev_o 9 b0), none, some (ev_i u2), some (ev_o 10 w3), none, none, some (ev_i u6), some (ev_i u7), some (ev_i 0)] [] S34 Q)))) ∧
                                          (¬ (u5 ≤ 0) → (
                                            (v33_ = 0 → (
                                              ev_Cv g m_X9_storedMoves 2 1 [ev_o 9 b0, ev_i u2] S34 (fun o S36 => ∃ v36_ : Int32, o = .inl (some (ev_i v36_)) ∧ (
                                                (v36_ = u4 → (
                                                  ev_E g m_L_isBoard 6 B 326 [some (ev_o 9 b0), none, some (ev_i u2), some (ev_o 10 w3), none, none, some (ev_i u6), some (ev_i u7), some (ev_i 1)] [] S36 Q)) ∧
                                                (¬ (v36_ = u4) → (
                                                  ev_E g m_L_isBoard 6 B 326 [some (ev_o 9 b0), none, some (ev_i u2), some (ev_o 10 w3), none, none, some (ev_i u6), some (ev_i u7), some (ev_i 0)] [] S36 Q)))))) ∧
                                            (¬ (v33_ = 0) → (
                                              ev_E g m_L_isBoard 6 (B + 1) 326 [some (ev_o 9 b0), none, some (ev_i u2), some (ev_o 10 w3), none, none, some (ev_i u6), some (ev_i u7), some (ev_i 0)] [] S34 Q)))))))) ∧
                                      (¬ (v34_ = true) → (
                                        (v33_ = (-1) → (
                                          ev_Cv g m_X9_storedMoves 2 1 [ev_o 9 b0, ev_i u2] S34 (fun o S38 => ∃ v38_ : Int32, o = .inl (some (ev_i v38_)) ∧ (
                                            (v38_ = u4 → (
                                              ev_E g m_L_isBoard 6 B 326 [some (ev_o 9 b0), none, some (ev_i u2), some (ev_o 10 w3), none, none, some (ev_i u6), some (ev_i u7), some (ev_i 1)] [] S38 Q)) ∧
                                            (¬ (v38_ = u4) → (
                                              ev_E g m_L_isBoard 6 B 326 [some (ev_o 9 b0), none, some (ev_i u2), some (ev_o 10 w3), none, none, some (ev_i u6), some (ev_i u7), some (ev_i 0)] [] S38 Q)))))) ∧
                                        (¬ (v33_ = (-1)) → (
                                          ev_E g m_L_isBoard 6 (B + 1) 326 [some (ev_o 9 b0), none, some (ev_i u2), some (ev_o 10 w3), none, none, some (ev_i u6), some (ev_i u7), some (ev_i 0)] [] S34 Q)))))))))))))))))))))))))) ∧
                (¬ (v5_ = (S5.1 w3 6)) → (
                  ev_E g m_L_isBoard 6 (B + 4) 326 [some (ev_o 9 b0), none, some (ev_i u2), some (ev_o 10 w3), none, none, some (ev_i u6), some (ev_i u7), some (ev_i 0)] [] S5 Q)))))) ∧
            (¬ (v3_ = v4_) → (
              ev_E g m_L_isBoard 6 (B + 5) 326 [some (ev_o 9 b0), none, some (ev_i u2), some (ev_o 10 w3), none, none, some (ev_i u6), some (ev_i u7), some (ev_i 0)] [] S4 Q)))))))) ∧
      (¬ (v1_ = v2_) → (
        ev_E g m_L_isBoard 6 (B + 6) 326 [some (ev_o 9 b0), none, some (ev_i u2), some (ev_o 10 w3), none, none, some (ev_i u6), some (ev_i u7), some (ev_i 0)] [] S2 Q))))))) : ev_E g m_L_isBoard 6 (B + 7) 208 [some (ev_o 9 b0), some (ev_o 11 b1), some (ev_i u2), some (ev_o 10 w3), some (ev_i u4), some (ev_i u5), some (ev_i u6), some (ev_i u7), none] [] S Q := by
  refine ev_aload_n (ev_o 9 b0) dL_isBoard_208 rfl rfl ?_
  refine ev_iload_n (u2) dL_isBoard_209 rfl ?_
  refine ev_iconst (0) dL_isBoard_210 rfl ?_
  refine ev_cV mv_X9_bishopCount 3 1 9 [ev_i u2, ev_i 0] [] dL_isBoard_211 kw_1041 rfl (by decide) rfl (by decide) (by omega) (Nat.le_of_ble_eq_true rfl) hQ ?_ rfl
  rintro o S1 ⟨v1_, rfl, hQ⟩
  show ev_E g m_L_isBoard 6 (B + 6) 214 [some (ev_o 9 b0), some (ev_o 11 b1), some (ev_i u2), some (ev_o 10 w3), some (ev_i u4), some (ev_i u5), some (ev_i u6), some (ev_i u7), none] [ev_i v1_] S1 Q
  refine ev_aload_n (ev_o 10 w3) dL_isBoard_214 rfl rfl ?_
  refine ev_iconst (0) dL_isBoard_215 rfl ?_
  refine ev_cV mv_X10_bishops 1 0 10 [ev_i 0] [ev_i v1_] dL_isBoard_216 kw_1023 rfl (by decide) rfl (by decide) (by omega) (Nat.le_of_ble_eq_true rfl) hQ ?_ rfl
  rintro o S2 ⟨v2_, rfl, hQ⟩
  show ev_E g m_L_isBoard 6 (B + 6) 219 [some (ev_o 9 b0), some (ev_o 11 b1), some (ev_i u2), some (ev_o 10 w3), some (ev_i u4), some (ev_i u5), some (ev_i u6), some (ev_i u7), none] [ev_i v2_, ev_i v1_] S2 Q
  refine ev_icmp_ne 323 dL_isBoard_219 (by decide) (fun c1 => ?_) (fun c1 => ?_)
  · replace hQ := hQ.2 c1
    refine ev_iconst (0) dL_isBoard_323 rfl ?_
    refine ev_istore dL_isBoard_324 (Nat.le_of_ble_eq_true rfl) (ev_hw rfl) ?_
    show ev_E g m_L_isBoard 6 (B + 6) 326 [some (ev_o 9 b0), some (ev_o 11 b1), some (ev_i u2), some (ev_o 10 w3), some (ev_i u4), some (ev_i u5), some (ev_i u6), some (ev_i u7), some (ev_i 0)] [] S2 Q
    refine ev_fgm [true, false, true, true, false, false, true, true, true] ?_
    exact hQ
  · replace hQ := hQ.1 c1
    refine ev_aload_n (ev_o 9 b0) dL_isBoard_222 rfl rfl ?_
    refine ev_iload_n (u2) dL_isBoard_223 rfl ?_
    refine ev_iconst (1) dL_isBoard_224 rfl ?_
    refine ev_cV mv_X9_bishopCount 3 1 9 [ev_i u2, ev_i 1] [] dL_isBoard_225 kw_1041 rfl (by decide) rfl (by decide) (by omega) (Nat.le_of_ble_eq_true rfl) hQ ?_ rfl
    rintro o S3 ⟨v3_, rfl, hQ⟩
    show ev_E g m_L_isBoard 6 (B + 5) 228 [some (ev_o 9 b0), some (ev_o 11 b1), some (ev_i u2), some (ev_o 10 w3), some (ev_i u4), some (ev_i u5), some (ev_i u6), some (ev_i u7), none] [ev_i v3_] S3 Q
    refine ev_aload_n (ev_o 10 w3) dL_isBoard_228 rfl rfl ?_
    refine ev_iconst (1) dL_isBoard_229 rfl ?_
    refine ev_cV mv_X10_bishops 1 0 10 [ev_i 1] [ev_i v3_] dL_isBoard_230 kw_1023 rfl (by decide) rfl (by decide) (by omega) (Nat.le_of_ble_eq_true rfl) hQ ?_ rfl
    rintro o S4 ⟨v4_, rfl, hQ⟩
    show ev_E g m_L_isBoard 6 (B + 5) 233 [some (ev_o 9 b0), some (ev_o 11 b1), some (ev_i u2), some (ev_o 10 w3), some (ev_i u4), some (ev_i u5), some (ev_i u6), some (ev_i u7), none] [ev_i v4_, ev_i v3_] S4 Q
    refine ev_icmp_ne 323 dL_isBoard_233 (by decide) (fun c2 => ?_) (fun c2 => ?_)
    · replace hQ := hQ.2 c2
      refine ev_iconst (0) dL_isBoard_323 rfl ?_
      refine ev_istore dL_isBoard_324 (Nat.le_of_ble_eq_true rfl) (ev_hw rfl) ?_
      show ev_E g m_L_isBoard 6 (B + 5) 326 [some (ev_o 9 b0), some (ev_o 11 b1), some (ev_i u2), some (ev_o 10 w3), some (ev_i u4), some (ev_i u5), some (ev_i u6), some (ev_i u7), some (ev_i 0)] [] S4 Q
      refine ev_fgm [true, false, true, true, false, false, true, true, true] ?_
      exact hQ
    · replace hQ := hQ.1 c2
      refine ev_aload_n (ev_o 9 b0) dL_isBoard_236 rfl rfl ?_
      refine ev_iload_n (u2) dL_isBoard_237 rfl ?_
      refine ev_cV mv_X9_moveCount 3 1 9 [ev_i u2] [] dL_isBoard_238 kw_1045 rfl (by decide) rfl (by decide) (by omega) (Nat.le_of_ble_eq_true rfl) hQ ?_ rfl
      rintro o S5 ⟨v5_, rfl, hQ⟩
      show ev_E g m_L_isBoard 6 (B + 4) 241 [some (ev_o 9 b0), some (ev_o 11 b1), some (ev_i u2), some (ev_o 10 w3), some (ev_i u4), some (ev_i u5), some (ev_i u6), some (ev_i u7), none] [ev_i v5_] S5 Q
      refine ev_aload_n (ev_o 10 w3) dL_isBoard_241 rfl rfl ?_
      refine gn_10_6 dL_isBoard_242 (List.mem_of_getElem? (i := 11) rfl) ?_
      refine ev_icmp_ne 323 dL_isBoard_245 (by decide) (fun c3 => ?_) (fun c3 => ?_)
      · replace hQ := hQ.2 c3
        refine ev_iconst (0) dL_isBoard_323 rfl ?_
        refine ev_istore dL_isBoard_324 (Nat.le_of_ble_eq_true rfl) (ev_hw rfl) ?_
        show ev_E g m_L_isBoard 6 (B + 4) 326 [some (ev_o 9 b0), some (ev_o 11 b1), some (ev_i u2), some (ev_o 10 w3), some (ev_i u4), some (ev_i u5), some (ev_i u6), some (ev_i u7), some (ev_i 0)] [] S5 Q
        refine ev_fgm [true, false, true, true, false, false, true, true, true] ?_
        exact hQ
      · replace hQ := hQ.1 c3
        refine ev_aload_n (ev_o 9 b0) dL_isBoard_248 rfl rfl ?_
        refine ev_iload_n (u2) dL_isBoard_249 rfl ?_
        refine ev_cV mv_X9_isTurn 5 1 9 [ev_i u2] [] dL_isBoard_250 kw_1053 rfl (by decide) rfl (by decide) (by omega) (Nat.le_of_ble_eq_true rfl) hQ ?_ rfl
        rintro o S6 ⟨v6_, rfl, hQ⟩
        show ev_E g m_L_isBoard 6 (B + 3) 253 [some (ev_o 9 b0), some (ev_o 11 b1), some (ev_i u2), some (ev_o 10 w3), some (ev_i u4), some (ev_i u5), some (ev_i u6), some (ev_i u7), none] [ev_i (if v6_ = true then 1 else 0)] S6 Q
        by_cases c4 : v6_ = true
        · rw [if_pos c4]
          replace hQ := hQ.1 c4
          refine ev_aload_n (ev_o 11 b1) dL_isBoard_253 rfl rfl ?_
          refine ev_iload_n (u2) dL_isBoard_254 rfl ?_
          refine ev_cV mv_X11_isTurn 3 0 11 [ev_i u2] [ev_i 1] dL_isBoard_255 kw_1031 rfl (by decide) rfl (by decide) (by omega) (Nat.le_of_ble_eq_true rfl) hQ ?_ rfl
          rintro o S7 ⟨v7_, rfl, hQ⟩
          show ev_E g m_L_isBoard 6 (B + 3) 258 [some (ev_o 9 b0), some (ev_o 11 b1), some (ev_i u2), some (ev_o 10 w3), some (ev_i u4), some (ev_i u5), some (ev_i u6), some (ev_i u7), none] [ev_i (if v7_ = true then 1 else 0), ev_i 1] S7 Q
          by_cases c5 : v7_ = true
          · rw [if_pos c5]
            replace hQ := hQ.1 c5
            refine ev_icmp_ne 323 dL_isBoard_258 (by decide) (fun h9 => absurd (by decide : ((1 : Int32) = 1)) h9) (fun _ => ?_)
            refine ev_aload_n (ev_o 9 b0) dL_isBoard_261 rfl rfl ?_
            refine ev_iload_n (u2) dL_isBoard_262 rfl ?_
            refine ev_cV mv_X9_isOver 4 1 9 [ev_i u2] [] dL_isBoard_263 kw_1074 rfl (by decide) rfl (by decide) (by omega) (Nat.le_of_ble_eq_true rfl) hQ ?_ rfl
            rintro o S8 ⟨v8_, rfl, hQ⟩
            show ev_E g m_L_isBoard 6 (B + 2) 266 [some (ev_o 9 b0), some (ev_o 11 b1), some (ev_i u2), some (ev_o 10 w3), some (ev_i u4), some (ev_i u5), some (ev_i u6), some (ev_i u7), none] [ev_i (if v8_ = true then 1 else 0)] S8 Q
            by_cases c6 : v8_ = true
            · rw [if_pos c6]
              replace hQ := hQ.1 c6
              refine ev_aload_n (ev_o 11 b1) dL_isBoard_266 rfl rfl ?_
              refine ev_iload_n (u2) dL_isBoard_267 rfl ?_
              refine ev_cV mv_X11_isOver 2 0 11 [ev_i u2] [ev_i 1] dL_isBoard_268 kw_1040 rfl (by decide) rfl (by decide) (by omega) (Nat.le_of_ble_eq_true rfl) hQ ?_ rfl
              rintro o S9 ⟨v9_, rfl, hQ⟩
              show ev_E g m_L_isBoard 6 (B + 2) 271 [some (ev_o 9 b0), some (ev_o 11 b1), some (ev_i u2), some (ev_o 10 w3), some (ev_i u4), some (ev_i u5), some (ev_i u6), some (ev_i u7), none] [ev_i (if v9_ = true then 1 else 0), ev_i 1] S9 Q
              by_cases c7 : v9_ = true
              · rw [if_pos c7]
                replace hQ := hQ.1 c7
                refine ev_icmp_ne 323 dL_isBoard_271 (by decide) (fun h9 => absurd (by decide : ((1 : Int32) = 1)) h9) (fun _ => ?_)
                refine ev_aload_n (ev_o 9 b0) dL_isBoard_274 rfl rfl ?_
                refine ev_iload_n (u2) dL_isBoard_275 rfl ?_
                refine ev_cV mv_X9_winner 4 1 9 [ev_i u2] [] dL_isBoard_276 kw_1079 rfl (by decide) rfl (by decide) (by omega) (Nat.le_of_ble_eq_true rfl) hQ ?_ rfl
                rintro o S10 ⟨v10_, rfl, hQ⟩
                show ev_E g m_L_isBoard 6 (B + 1) 279 [some (ev_o 9 b0), some (ev_o 11 b1), some (ev_i u2), some (ev_o 10 w3), some (ev_i u4), some (ev_i u5), some (ev_i u6), some (ev_i u7), none] [ev_i v10_] S10 Q
                refine ev_aload_n (ev_o 11 b1) dL_isBoard_279 rfl rfl ?_
                refine ev_iload_n (u2) dL_isBoard_280 rfl ?_
                refine ev_cV mv_X11_isOver 2 0 11 [ev_i u2] [ev_i v10_] dL_isBoard_281 kw_1040 rfl (by decide) rfl (by decide) (by omega) (Nat.le_of_ble_eq_true rfl) hQ ?_ rfl
                rintro o S11 ⟨v11_, rfl, hQ⟩
                show ev_E g m_L_isBoard 6 (B + 1) 284 [some (ev_o 9 b0), some (ev_o 11 b1), some (ev_i u2), some (ev_o 10 w3), some (ev_i u4), some (ev_i u5), some (ev_i u6), some (ev_i u7), none] [ev_i (if v11_ = true then 1 else 0), ev_i v10_] S11 Q
                by_cases c8 : v11_ = true
                · rw [if_pos c8]
                  replace hQ := hQ.1 c8
                  refine ev_if_eq 292 dL_isBoard_284 (by decide) (fun h9 => absurd h9 (by decide : ¬ ((1 : Int32) = 0))) (fun _ => ?_)
                  refine ev_iload (u5) dL_isBoard_287 rfl ?_
                  refine ev_if_ne 296 dL_isBoard_289 (by decide) (fun c9 => ?_) (fun c9 => ?_)
                  · replace hQ := hQ.2 c9
                    refine ev_iload (u5) dL_isBoard_296 rfl ?_
                    refine ev_if_le 305 dL_isBoard_298 (by decide) (fun c10 => ?_) (fun c10 => ?_)
                    · replace hQ := hQ.1 c10
                      refine ev_iconst (1) dL_isBoard_305 rfl ?_
                      refine ev_icmp_ne 323 dL_isBoard_306 (by decide) (fun c11 => ?_) (fun c11 => ?_)
                      · replace hQ := hQ.2 c11
                        refine ev_iconst (0) dL_isBoard_323 rfl ?_
                        refine ev_istore dL_isBoard_324 (Nat.le_of_ble_eq_true rfl) (ev_hw rfl) ?_
                        show ev_E g m_L_isBoard 6 (B + 1) 326 [some (ev_o 9 b0), some (ev_o 11 b1), some (ev_i u2), some (ev_o 10 w3), some (ev_i u4), some (ev_i u5), some (ev_i u6), some (ev_i u7), some (ev_i 0)] [] S11 Q
                        refine ev_fgm [true, false, true, true, false, false, true, true, true] ?_
                        exact hQ
                      · replace hQ := hQ.1 c11
                        refine ev_aload_n (ev_o 9 b0) dL_isBoard_309 rfl rfl ?_
                        refine ev_iload_n (u2) dL_isBoard_310 rfl ?_
                        refine ev_cV mv_X9_storedMoves 2 1 9 [ev_i u2] [] dL_isBoard_311 kw_1083 rfl (by decide) rfl (by decide) (by omega) (Nat.le_of_ble_eq_true rfl) hQ ?_ rfl
                        rintro o S12 ⟨v12_, rfl, hQ⟩
                        show ev_E g m_L_isBoard 6 B 314 [some (ev_o 9 b0), some (ev_o 11 b1), some (ev_i u2), some (ev_o 10 w3), some (ev_i u4), some (ev_i u5), some (ev_i u6), some (ev_i u7), none] [ev_i v12_] S12 Q
                        refine ev_iload (u4) dL_isBoard_314 rfl ?_
                        refine ev_icmp_ne 323 dL_isBoard_316 (by decide) (fun c12 => ?_) (fun c12 => ?_)
                        · replace hQ := hQ.2 c12
                          refine ev_iconst (0) dL_isBoard_323 rfl ?_
                          refine ev_istore dL_isBoard_324 (Nat.le_of_ble_eq_true rfl) (ev_hw rfl) ?_
                          show ev_E g m_L_isBoard 6 B 326 [some (ev_o 9 b0), some (ev_o 11 b1), some (ev_i u2), some (ev_o 10 w3), some (ev_i u4), some (ev_i u5), some (ev_i u6), some (ev_i u7), some (ev_i 0)] [] S12 Q
                          refine ev_fgm [true, false, true, true, false, false, true, true, true] ?_
                          exact hQ
                        · replace hQ := hQ.1 c12
                          refine ev_iconst (1) dL_isBoard_319 rfl ?_
                          refine ev_goto 324 dL_isBoard_320 (by decide) ?_
                          refine ev_istore dL_isBoard_324 (Nat.le_of_ble_eq_true rfl) (ev_hw rfl) ?_
                          show ev_E g m_L_isBoard 6 B 326 [some (ev_o 9 b0), some (ev_o 11 b1), some (ev_i u2), some (ev_o 10 w3), some (ev_i u4), some (ev_i u5), some (ev_i u6), some (ev_i u7), some (ev_i 1)] [] S12 Q
                          refine ev_fgm [true, false, true, true, false, false, true, true, true] ?_
                          exact hQ
                    · replace hQ := hQ.2 c10
                      refine ev_iconst (0) dL_isBoard_301 rfl ?_
                      refine ev_goto 306 dL_isBoard_302 (by decide) ?_
                      refine ev_icmp_ne 323 dL_isBoard_306 (by decide) (fun c13 => ?_) (fun c13 => ?_)
                      · replace hQ := hQ.2 c13
                        refine ev_iconst (0) dL_isBoard_323 rfl ?_
                        refine ev_istore dL_isBoard_324 (Nat.le_of_ble_eq_true rfl) (ev_hw rfl) ?_
                        show ev_E g m_L_isBoard 6 (B + 1) 326 [some (ev_o 9 b0), some (ev_o 11 b1), some (ev_i u2), some (ev_o 10 w3), some (ev_i u4), some (ev_i u5), some (ev_i u6), some (ev_i u7), some (ev_i 0)] [] S11 Q
                        refine ev_fgm [true, false, true, true, false, false, true, true, true] ?_
                        exact hQ
                      · replace hQ := hQ.1 c13
                        refine ev_aload_n (ev_o 9 b0) dL_isBoard_309 rfl rfl ?_
                        refine ev_iload_n (u2) dL_isBoard_310 rfl ?_
                        refine ev_cV mv_X9_storedMoves 2 1 9 [ev_i u2] [] dL_isBoard_311 kw_1083 rfl (by decide) rfl (by decide) (by omega) (Nat.le_of_ble_eq_true rfl) hQ ?_ rfl
                        rintro o S13 ⟨v13_, rfl, hQ⟩
                        show ev_E g m_L_isBoard 6 B 314 [some (ev_o 9 b0), some (ev_o 11 b1), some (ev_i u2), some (ev_o 10 w3), some (ev_i u4), some (ev_i u5), some (ev_i u6), some (ev_i u7), none] [ev_i v13_] S13 Q
                        refine ev_iload (u4) dL_isBoard_314 rfl ?_
                        refine ev_icmp_ne 323 dL_isBoard_316 (by decide) (fun c14 => ?_) (fun c14 => ?_)
                        · replace hQ := hQ.2 c14
                          refine ev_iconst (0) dL_isBoard_323 rfl ?_
                          refine ev_istore dL_isBoard_324 (Nat.le_of_ble_eq_true rfl) (ev_hw rfl) ?_
                          show ev_E g m_L_isBoard 6 B 326 [some (ev_o 9 b0), some (ev_o 11 b1), some (ev_i u2), some (ev_o 10 w3), some (ev_i u4), some (ev_i u5), some (ev_i u6), some (ev_i u7), some (ev_i 0)] [] S13 Q
                          refine ev_fgm [true, false, true, true, false, false, true, true, true] ?_
                          exact hQ
                        · replace hQ := hQ.1 c14
                          refine ev_iconst (1) dL_isBoard_319 rfl ?_
                          refine ev_goto 324 dL_isBoard_320 (by decide) ?_
                          refine ev_istore dL_isBoard_324 (Nat.le_of_ble_eq_true rfl) (ev_hw rfl) ?_
                          show ev_E g m_L_isBoard 6 B 326 [some (ev_o 9 b0), some (ev_o 11 b1), some (ev_i u2), some (ev_o 10 w3), some (ev_i u4), some (ev_i u5), some (ev_i u6), some (ev_i u7), some (ev_i 1)] [] S13 Q
                          refine ev_fgm [true, false, true, true, false, false, true, true, true] ?_
                          exact hQ
                  · replace hQ := hQ.1 c9
                    refine ev_iconst (-1) dL_isBoard_292 rfl ?_
                    refine ev_goto 306 dL_isBoard_293 (by decide) ?_
                    refine ev_icmp_ne 323 dL_isBoard_306 (by decide) (fun c15 => ?_) (fun c15 => ?_)
                    · replace hQ := hQ.2 c15
                      refine ev_iconst (0) dL_isBoard_323 rfl ?_
                      refine ev_istore dL_isBoard_324 (Nat.le_of_ble_eq_true rfl) (ev_hw rfl) ?_
                      show ev_E g m_L_isBoard 6 (B + 1) 326 [some (ev_o 9 b0), some (ev_o 11 b1), some (ev_i u2), some (ev_o 10 w3), some (ev_i u4), some (ev_i u5), some (ev_i u6), some (ev_i u7), some (ev_i 0)] [] S11 Q
                      refine ev_fgm [true, false, true, true, false, false, true, true, true] ?_
                      exact hQ
                    · replace hQ := hQ.1 c15
                      refine ev_aload_n (ev_o 9 b0) dL_isBoard_309 rfl rfl ?_
                      refine ev_iload_n (u2) dL_isBoard_310 rfl ?_
                      refine ev_cV mv_X9_storedMoves 2 1 9 [ev_i u2] [] dL_isBoard_311 kw_1083 rfl (by decide) rfl (by decide) (by omega) (Nat.le_of_ble_eq_true rfl) hQ ?_ rfl
                      rintro o S14 ⟨v14_, rfl, hQ⟩
                      show ev_E g m_L_isBoard 6 B 314 [some (ev_o 9 b0), some (ev_o 11 b1), some (ev_i u2), some (ev_o 10 w3), some (ev_i u4), some (ev_i u5), some (ev_i u6), some (ev_i u7), none] [ev_i v14_] S14 Q
                      refine ev_iload (u4) dL_isBoard_314 rfl ?_
                      refine ev_icmp_ne 323 dL_isBoard_316 (by decide) (fun c16 => ?_) (fun c16 => ?_)
                      · replace hQ := hQ.2 c16
                        refine ev_iconst (0) dL_isBoard_323 rfl ?_
                        refine ev_istore dL_isBoard_324 (Nat.le_of_ble_eq_true rfl) (ev_hw rfl) ?_
                        show ev_E g m_L_isBoard 6 B 326 [some (ev_o 9 b0), some (ev_o 11 b1), some (ev_i u2), some (ev_o 10 w3), some (ev_i u4), some (ev_i u5), some (ev_i u6), some (ev_i u7), some (ev_i 0)] [] S14 Q
                        refine ev_fgm [true, false, true, true, false, false, true, true, true] ?_
                        exact hQ
                      · replace hQ := hQ.1 c16
                        refine ev_iconst (1) dL_isBoard_319 rfl ?_
                        refine ev_goto 324 dL_isBoard_320 (by decide) ?_
                        refine ev_istore dL_isBoard_324 (Nat.le_of_ble_eq_true rfl) (ev_hw rfl) ?_
                        show ev_E g m_L_isBoard 6 B 326 [some (ev_o 9 b0), some (ev_o 11 b1), some (ev_i u2), some (ev_o 10 w3), some (ev_i u4), some (ev_i u5), some (ev_i u6), some (ev_i u7), some (ev_i 1)] [] S14 Q
                        refine ev_fgm [true, false, true, true, false, false, true, true, true] ?_
                        exact hQ
                · rw [if_neg c8]
                  replace hQ := hQ.2 c8
                  refine ev_if_eq 292 dL_isBoard_284 (by decide) (fun _ => ?_) (fun h9 => absurd (by decide : ((0 : Int32) = 0)) h9)
                  refine ev_iconst (-1) dL_isBoard_292 rfl ?_
                  refine ev_goto 306 dL_isBoard_293 (by decide) ?_
                  refine ev_icmp_ne 323 dL_isBoard_306 (by decide) (fun c17 => ?_) (fun c17 => ?_)
                  · replace hQ := hQ.2 c17
                    refine ev_iconst (0) dL_isBoard_323 rfl ?_
                    refine ev_istore dL_isBoard_324 (Nat.le_of_ble_eq_true rfl) (ev_hw rfl) ?_
                    show ev_E g m_L_isBoard 6 (B + 1) 326 [some (ev_o 9 b0), some (ev_o 11 b1), some (ev_i u2), some (ev_o 10 w3), some (ev_i u4), some (ev_i u5), some (ev_i u6), some (ev_i u7), some (ev_i 0)] [] S11 Q
                    refine ev_fgm [true, false, true, true, false, false, true, true, true] ?_
                    exact hQ
                  · replace hQ := hQ.1 c17
                    refine ev_aload_n (ev_o 9 b0) dL_isBoard_309 rfl rfl ?_
                    refine ev_iload_n (u2) dL_isBoard_310 rfl ?_
                    refine ev_cV mv_X9_storedMoves 2 1 9 [ev_i u2] [] dL_isBoard_311 kw_1083 rfl (by decide) rfl (by decide) (by omega) (Nat.le_of_ble_eq_true rfl) hQ ?_ rfl
                    rintro o S15 ⟨v15_, rfl, hQ⟩
                    show ev_E g m_L_isBoard 6 B 314 [some (ev_o 9 b0), some (ev_o 11 b1), some (ev_i u2), some (ev_o 10 w3), some (ev_i u4), some (ev_i u5), some (ev_i u6), some (ev_i u7), none] [ev_i v15_] S15 Q
                    refine ev_iload (u4) dL_isBoard_314 rfl ?_
                    refine ev_icmp_ne 323 dL_isBoard_316 (by decide) (fun c18 => ?_) (fun c18 => ?_)
                    · replace hQ := hQ.2 c18
                      refine ev_iconst (0) dL_isBoard_323 rfl ?_
                      refine ev_istore dL_isBoard_324 (Nat.le_of_ble_eq_true rfl) (ev_hw rfl) ?_
                      show ev_E g m_L_isBoard 6 B 326 [some (ev_o 9 b0), some (ev_o 11 b1), some (ev_i u2), some (ev_o 10 w3), some (ev_i u4), some (ev_i u5), some (ev_i u6), some (ev_i u7), some (ev_i 0)] [] S15 Q
                      refine ev_fgm [true, false, true, true, false, false, true, true, true] ?_
                      exact hQ
                    · replace hQ := hQ.1 c18
                      refine ev_iconst (1) dL_isBoard_319 rfl ?_
                      refine ev_goto 324 dL_isBoard_320 (by decide) ?_
                      refine ev_istore dL_isBoard_324 (Nat.le_of_ble_eq_true rfl) (ev_hw rfl) ?_
                      show ev_E g m_L_isBoard 6 B 326 [some (ev_o 9 b0), some (ev_o 11 b1), some (ev_i u2), some (ev_o 10 w3), some (ev_i u4), some (ev_i u5), some (ev_i u6), some (ev_i u7), some (ev_i 1)] [] S15 Q
                      refine ev_fgm [true, false, true, true, false, false, true, true, true] ?_
                      exact hQ
              · rw [if_neg c7]
                replace hQ := hQ.2 c7
                refine ev_icmp_ne 323 dL_isBoard_271 (by decide) (fun _ => ?_) (fun h9 => absurd h9 (by decide : ¬ ((1 : Int32) = 0)))
                refine ev_iconst (0) dL_isBoard_323 rfl ?_
                refine ev_istore dL_isBoard_324 (Nat.le_of_ble_eq_true rfl) (ev_hw rfl) ?_
                show ev_E g m_L_isBoard 6 (B + 2) 326 [some (ev_o 9 b0), some (ev_o 11 b1), some (ev_i u2), some (ev_o 10 w3), some (ev_i u4), some (ev_i u5), some (ev_i u6), some (ev_i u7), some (ev_i 0)] [] S9 Q
                refine ev_fgm [true, false, true, true, false, false, true, true, true] ?_
                exact hQ
            · rw [if_neg c6]
              replace hQ := hQ.2 c6
              refine ev_aload_n (ev_o 11 b1) dL_isBoard_266 rfl rfl ?_
              refine ev_iload_n (u2) dL_isBoard_267 rfl ?_
              refine ev_cV mv_X11_isOver 2 0 11 [ev_i u2] [ev_i 0] dL_isBoard_268 kw_1040 rfl (by decide) rfl (by decide) (by omega) (Nat.le_of_ble_eq_true rfl) hQ ?_ rfl
              rintro o S16 ⟨v16_, rfl, hQ⟩
              show ev_E g m_L_isBoard 6 (B + 2) 271 [some (ev_o 9 b0), some (ev_o 11 b1), some (ev_i u2), some (ev_o 10 w3), some (ev_i u4), some (ev_i u5), some (ev_i u6), some (ev_i u7), none] [ev_i (if v16_ = true then 1 else 0), ev_i 0] S16 Q
              by_cases c19 : v16_ = true
              · rw [if_pos c19]
                replace hQ := hQ.1 c19
                refine ev_icmp_ne 323 dL_isBoard_271 (by decide) (fun _ => ?_) (fun h9 => absurd h9 (by decide : ¬ ((0 : Int32) = 1)))
                refine ev_iconst (0) dL_isBoard_323 rfl ?_
                refine ev_istore dL_isBoard_324 (Nat.le_of_ble_eq_true rfl) (ev_hw rfl) ?_
                show ev_E g m_L_isBoard 6 (B + 2) 326 [some (ev_o 9 b0), some (ev_o 11 b1), some (ev_i u2), some (ev_o 10 w3), some (ev_i u4), some (ev_i u5), some (ev_i u6), some (ev_i u7), some (ev_i 0)] [] S16 Q
                refine ev_fgm [true, false, true, true, false, false, true, true, true] ?_
                exact hQ
              · rw [if_neg c19]
                replace hQ := hQ.2 c19
                refine ev_icmp_ne 323 dL_isBoard_271 (by decide) (fun h9 => absurd (by decide : ((0 : Int32) = 0)) h9) (fun _ => ?_)
                refine ev_aload_n (ev_o 9 b0) dL_isBoard_274 rfl rfl ?_
                refine ev_iload_n (u2) dL_isBoard_275 rfl ?_
                refine ev_cV mv_X9_winner 4 1 9 [ev_i u2] [] dL_isBoard_276 kw_1079 rfl (by decide) rfl (by decide) (by omega) (Nat.le_of_ble_eq_true rfl) hQ ?_ rfl
                rintro o S17 ⟨v17_, rfl, hQ⟩
                show ev_E g m_L_isBoard 6 (B + 1) 279 [some (ev_o 9 b0), some (ev_o 11 b1), some (ev_i u2), some (ev_o 10 w3), some (ev_i u4), some (ev_i u5), some (ev_i u6), some (ev_i u7), none] [ev_i v17_] S17 Q
                refine ev_aload_n (ev_o 11 b1) dL_isBoard_279 rfl rfl ?_
                refine ev_iload_n (u2) dL_isBoard_280 rfl ?_
                refine ev_cV mv_X11_isOver 2 0 11 [ev_i u2] [ev_i v17_] dL_isBoard_281 kw_1040 rfl (by decide) rfl (by decide) (by omega) (Nat.le_of_ble_eq_true rfl) hQ ?_ rfl
                rintro o S18 ⟨v18_, rfl, hQ⟩
                show ev_E g m_L_isBoard 6 (B + 1) 284 [some (ev_o 9 b0), some (ev_o 11 b1), some (ev_i u2), some (ev_o 10 w3), some (ev_i u4), some (ev_i u5), some (ev_i u6), some (ev_i u7), none] [ev_i (if v18_ = true then 1 else 0), ev_i v17_] S18 Q
                by_cases c20 : v18_ = true
                · rw [if_pos c20]
                  replace hQ := hQ.1 c20
                  refine ev_if_eq 292 dL_isBoard_284 (by decide) (fun h9 => absurd h9 (by decide : ¬ ((1 : Int32) = 0))) (fun _ => ?_)
                  refine ev_iload (u5) dL_isBoard_287 rfl ?_
                  refine ev_if_ne 296 dL_isBoard_289 (by decide) (fun c21 => ?_) (fun c21 => ?_)
                  · replace hQ := hQ.2 c21
                    refine ev_iload (u5) dL_isBoard_296 rfl ?_
                    refine ev_if_le 305 dL_isBoard_298 (by decide) (fun c22 => ?_) (fun c22 => ?_)
                    · replace hQ := hQ.1 c22
                      refine ev_iconst (1) dL_isBoard_305 rfl ?_
                      refine ev_icmp_ne 323 dL_isBoard_306 (by decide) (fun c23 => ?_) (fun c23 => ?_)
                      · replace hQ := hQ.2 c23
                        refine ev_iconst (0) dL_isBoard_323 rfl ?_
                        refine ev_istore dL_isBoard_324 (Nat.le_of_ble_eq_true rfl) (ev_hw rfl) ?_
                        show ev_E g m_L_isBoard 6 (B + 1) 326 [some (ev_o 9 b0), some (ev_o 11 b1), some (ev_i u2), some (ev_o 10 w3), some (ev_i u4), some (ev_i u5), some (ev_i u6), some (ev_i u7), some (ev_i 0)] [] S18 Q
                        refine ev_fgm [true, false, true, true, false, false, true, true, true] ?_
                        exact hQ
                      · replace hQ := hQ.1 c23
                        refine ev_aload_n (ev_o 9 b0) dL_isBoard_309 rfl rfl ?_
                        refine ev_iload_n (u2) dL_isBoard_310 rfl ?_
                        refine ev_cV mv_X9_storedMoves 2 1 9 [ev_i u2] [] dL_isBoard_311 kw_1083 rfl (by decide) rfl (by decide) (by omega) (Nat.le_of_ble_eq_true rfl) hQ ?_ rfl
                        rintro o S19 ⟨v19_, rfl, hQ⟩
                        show ev_E g m_L_isBoard 6 B 314 [some (ev_o 9 b0), some (ev_o 11 b1), some (ev_i u2), some (ev_o 10 w3), some (ev_i u4), some (ev_i u5), some (ev_i u6), some (ev_i u7), none] [ev_i v19_] S19 Q
                        refine ev_iload (u4) dL_isBoard_314 rfl ?_
                        refine ev_icmp_ne 323 dL_isBoard_316 (by decide) (fun c24 => ?_) (fun c24 => ?_)
                        · replace hQ := hQ.2 c24
                          refine ev_iconst (0) dL_isBoard_323 rfl ?_
                          refine ev_istore dL_isBoard_324 (Nat.le_of_ble_eq_true rfl) (ev_hw rfl) ?_
                          show ev_E g m_L_isBoard 6 B 326 [some (ev_o 9 b0), some (ev_o 11 b1), some (ev_i u2), some (ev_o 10 w3), some (ev_i u4), some (ev_i u5), some (ev_i u6), some (ev_i u7), some (ev_i 0)] [] S19 Q
                          refine ev_fgm [true, false, true, true, false, false, true, true, true] ?_
                          exact hQ
                        · replace hQ := hQ.1 c24
                          refine ev_iconst (1) dL_isBoard_319 rfl ?_
                          refine ev_goto 324 dL_isBoard_320 (by decide) ?_
                          refine ev_istore dL_isBoard_324 (Nat.le_of_ble_eq_true rfl) (ev_hw rfl) ?_
                          show ev_E g m_L_isBoard 6 B 326 [some (ev_o 9 b0), some (ev_o 11 b1), some (ev_i u2), some (ev_o 10 w3), some (ev_i u4), some (ev_i u5), some (ev_i u6), some (ev_i u7), some (ev_i 1)] [] S19 Q
                          refine ev_fgm [true, false, true, true, false, false, true, true, true] ?_
                          exact hQ
                    · replace hQ := hQ.2 c22
                      refine ev_iconst (0) dL_isBoard_301 rfl ?_
                      refine ev_goto 306 dL_isBoard_302 (by decide) ?_
                      refine ev_icmp_ne 323 dL_isBoard_306 (by decide) (fun c25 => ?_) (fun c25 => ?_)
                      · replace hQ := hQ.2 c25
                        refine ev_iconst (0) dL_isBoard_323 rfl ?_
                        refine ev_istore dL_isBoard_324 (Nat.le_of_ble_eq_true rfl) (ev_hw rfl) ?_
                        show ev_E g m_L_isBoard 6 (B + 1) 326 [some (ev_o 9 b0), some (ev_o 11 b1), some (ev_i u2), some (ev_o 10 w3), some (ev_i u4), some (ev_i u5), some (ev_i u6), some (ev_i u7), some (ev_i 0)] [] S18 Q
                        refine ev_fgm [true, false, true, true, false, false, true, true, true] ?_
                        exact hQ
                      · replace hQ := hQ.1 c25
                        refine ev_aload_n (ev_o 9 b0) dL_isBoard_309 rfl rfl ?_
                        refine ev_iload_n (u2) dL_isBoard_310 rfl ?_
                        refine ev_cV mv_X9_storedMoves 2 1 9 [ev_i u2] [] dL_isBoard_311 kw_1083 rfl (by decide) rfl (by decide) (by omega) (Nat.le_of_ble_eq_true rfl) hQ ?_ rfl
                        rintro o S20 ⟨v20_, rfl, hQ⟩
                        show ev_E g m_L_isBoard 6 B 314 [some (ev_o 9 b0), some (ev_o 11 b1), some (ev_i u2), some (ev_o 10 w3), some (ev_i u4), some (ev_i u5), some (ev_i u6), some (ev_i u7), none] [ev_i v20_] S20 Q
                        refine ev_iload (u4) dL_isBoard_314 rfl ?_
                        refine ev_icmp_ne 323 dL_isBoard_316 (by decide) (fun c26 => ?_) (fun c26 => ?_)
                        · replace hQ := hQ.2 c26
                          refine ev_iconst (0) dL_isBoard_323 rfl ?_
                          refine ev_istore dL_isBoard_324 (Nat.le_of_ble_eq_true rfl) (ev_hw rfl) ?_
                          show ev_E g m_L_isBoard 6 B 326 [some (ev_o 9 b0), some (ev_o 11 b1), some (ev_i u2), some (ev_o 10 w3), some (ev_i u4), some (ev_i u5), some (ev_i u6), some (ev_i u7), some (ev_i 0)] [] S20 Q
                          refine ev_fgm [true, false, true, true, false, false, true, true, true] ?_
                          exact hQ
                        · replace hQ := hQ.1 c26
                          refine ev_iconst (1) dL_isBoard_319 rfl ?_
                          refine ev_goto 324 dL_isBoard_320 (by decide) ?_
                          refine ev_istore dL_isBoard_324 (Nat.le_of_ble_eq_true rfl) (ev_hw rfl) ?_
                          show ev_E g m_L_isBoard 6 B 326 [some (ev_o 9 b0), some (ev_o 11 b1), some (ev_i u2), some (ev_o 10 w3), some (ev_i u4), some (ev_i u5), some (ev_i u6), some (ev_i u7), some (ev_i 1)] [] S20 Q
                          refine ev_fgm [true, false, true, true, false, false, true, true, true] ?_
                          exact hQ
                  · replace hQ := hQ.1 c21
                    refine ev_iconst (-1) dL_isBoard_292 rfl ?_
                    refine ev_goto 306 dL_isBoard_293 (by decide) ?_
                    refine ev_icmp_ne 323 dL_isBoard_306 (by decide) (fun c27 => ?_) (fun c27 => ?_)
                    · replace hQ := hQ.2 c27
                      refine ev_iconst (0) dL_isBoard_323 rfl ?_
                      refine ev_istore dL_isBoard_324 (Nat.le_of_ble_eq_true rfl) (ev_hw rfl) ?_
                      show ev_E g m_L_isBoard 6 (B + 1) 326 [some (ev_o 9 b0), some (ev_o 11 b1), some (ev_i u2), some (ev_o 10 w3), some (ev_i u4), some (ev_i u5), some (ev_i u6), some (ev_i u7), some (ev_i 0)] [] S18 Q
                      refine ev_fgm [true, false, true, true, false, false, true, true, true] ?_
                      exact hQ
                    · replace hQ := hQ.1 c27
                      refine ev_aload_n (ev_o 9 b0) dL_isBoard_309 rfl rfl ?_
                      refine ev_iload_n (u2) dL_isBoard_310 rfl ?_
                      refine ev_cV mv_X9_storedMoves 2 1 9 [ev_i u2] [] dL_isBoard_311 kw_1083 rfl (by decide) rfl (by decide) (by omega) (Nat.le_of_ble_eq_true rfl) hQ ?_ rfl
                      rintro o S21 ⟨v21_, rfl, hQ⟩
                      show ev_E g m_L_isBoard 6 B 314 [some (ev_o 9 b0), some (ev_o 11 b1), some (ev_i u2), some (ev_o 10 w3), some (ev_i u4), some (ev_i u5), some (ev_i u6), some (ev_i u7), none] [ev_i v21_] S21 Q
                      refine ev_iload (u4) dL_isBoard_314 rfl ?_
                      refine ev_icmp_ne 323 dL_isBoard_316 (by decide) (fun c28 => ?_) (fun c28 => ?_)
                      · replace hQ := hQ.2 c28
                        refine ev_iconst (0) dL_isBoard_323 rfl ?_
                        refine ev_istore dL_isBoard_324 (Nat.le_of_ble_eq_true rfl) (ev_hw rfl) ?_
                        show ev_E g m_L_isBoard 6 B 326 [some (ev_o 9 b0), some (ev_o 11 b1), some (ev_i u2), some (ev_o 10 w3), some (ev_i u4), some (ev_i u5), some (ev_i u6), some (ev_i u7), some (ev_i 0)] [] S21 Q
                        refine ev_fgm [true, false, true, true, false, false, true, true, true] ?_
                        exact hQ
                      · replace hQ := hQ.1 c28
                        refine ev_iconst (1) dL_isBoard_319 rfl ?_
                        refine ev_goto 324 dL_isBoard_320 (by decide) ?_
                        refine ev_istore dL_isBoard_324 (Nat.le_of_ble_eq_true rfl) (ev_hw rfl) ?_
                        show ev_E g m_L_isBoard 6 B 326 [some (ev_o 9 b0), some (ev_o 11 b1), some (ev_i u2), some (ev_o 10 w3), some (ev_i u4), some (ev_i u5), some (ev_i u6), some (ev_i u7), some (ev_i 1)] [] S21 Q
                        refine ev_fgm [true, false, true, true, false, false, true, true, true] ?_
                        exact hQ
                · rw [if_neg c20]
                  replace hQ := hQ.2 c20
                  refine ev_if_eq 292 dL_isBoard_284 (by decide) (fun _ => ?_) (fun h9 => absurd (by decide : ((0 : Int32) = 0)) h9)
                  refine ev_iconst (-1) dL_isBoard_292 rfl ?_
                  refine ev_goto 306 dL_isBoard_293 (by decide) ?_
                  refine ev_icmp_ne 323 dL_isBoard_306 (by decide) (fun c29 => ?_) (fun c29 => ?_)
                  · replace hQ := hQ.2 c29
                    refine ev_iconst (0) dL_isBoard_323 rfl ?_
                    refine ev_istore dL_isBoard_324 (Nat.le_of_ble_eq_true rfl) (ev_hw rfl) ?_
                    show ev_E g m_L_isBoard 6 (B + 1) 326 [some (ev_o 9 b0), some (ev_o 11 b1), some (ev_i u2), some (ev_o 10 w3), some (ev_i u4), some (ev_i u5), some (ev_i u6), some (ev_i u7), some (ev_i 0)] [] S18 Q
                    refine ev_fgm [true, false, true, true, false, false, true, true, true] ?_
                    exact hQ
                  · replace hQ := hQ.1 c29
                    refine ev_aload_n (ev_o 9 b0) dL_isBoard_309 rfl rfl ?_
                    refine ev_iload_n (u2) dL_isBoard_310 rfl ?_
                    refine ev_cV mv_X9_storedMoves 2 1 9 [ev_i u2] [] dL_isBoard_311 kw_1083 rfl (by decide) rfl (by decide) (by omega) (Nat.le_of_ble_eq_true rfl) hQ ?_ rfl
                    rintro o S22 ⟨v22_, rfl, hQ⟩
                    show ev_E g m_L_isBoard 6 B 314 [some (ev_o 9 b0), some (ev_o 11 b1), some (ev_i u2), some (ev_o 10 w3), some (ev_i u4), some (ev_i u5), some (ev_i u6), some (ev_i u7), none] [ev_i v22_] S22 Q
                    refine ev_iload (u4) dL_isBoard_314 rfl ?_
                    refine ev_icmp_ne 323 dL_isBoard_316 (by decide) (fun c30 => ?_) (fun c30 => ?_)
                    · replace hQ := hQ.2 c30
                      refine ev_iconst (0) dL_isBoard_323 rfl ?_
                      refine ev_istore dL_isBoard_324 (Nat.le_of_ble_eq_true rfl) (ev_hw rfl) ?_
                      show ev_E g m_L_isBoard 6 B 326 [some (ev_o 9 b0), some (ev_o 11 b1), some (ev_i u2), some (ev_o 10 w3), some (ev_i u4), some (ev_i u5), some (ev_i u6), some (ev_i u7), some (ev_i 0)] [] S22 Q
                      refine ev_fgm [true, false, true, true, false, false, true, true, true] ?_
                      exact hQ
                    · replace hQ := hQ.1 c30
                      refine ev_iconst (1) dL_isBoard_319 rfl ?_
                      refine ev_goto 324 dL_isBoard_320 (by decide) ?_
                      refine ev_istore dL_isBoard_324 (Nat.le_of_ble_eq_true rfl) (ev_hw rfl) ?_
                      show ev_E g m_L_isBoard 6 B 326 [some (ev_o 9 b0), some (ev_o 11 b1), some (ev_i u2), some (ev_o 10 w3), some (ev_i u4), some (ev_i u5), some (ev_i u6), some (ev_i u7), some (ev_i 1)] [] S22 Q
                      refine ev_fgm [true, false, true, true, false, false, true, true, true] ?_
                      exact hQ
          · rw [if_neg c5]
            replace hQ := hQ.2 c5
            refine ev_icmp_ne 323 dL_isBoard_258 (by decide) (fun _ => ?_) (fun h9 => absurd h9 (by decide : ¬ ((1 : Int32) = 0)))
            refine ev_iconst (0) dL_isBoard_323 rfl ?_
            refine ev_istore dL_isBoard_324 (Nat.le_of_ble_eq_true rfl) (ev_hw rfl) ?_
            show ev_E g m_L_isBoard 6 (B + 3) 326 [some (ev_o 9 b0), some (ev_o 11 b1), some (ev_i u2), some (ev_o 10 w3), some (ev_i u4), some (ev_i u5), some (ev_i u6), some (ev_i u7), some (ev_i 0)] [] S7 Q
            refine ev_fgm [true, false, true, true, false, false, true, true, true] ?_
            exact hQ
        · rw [if_neg c4]
          replace hQ := hQ.2 c4
          refine ev_aload_n (ev_o 11 b1) dL_isBoard_253 rfl rfl ?_
          refine ev_iload_n (u2) dL_isBoard_254 rfl ?_
          refine ev_cV mv_X11_isTurn 3 0 11 [ev_i u2] [ev_i 0] dL_isBoard_255 kw_1031 rfl (by decide) rfl (by decide) (by omega) (Nat.le_of_ble_eq_true rfl) hQ ?_ rfl
          rintro o S23 ⟨v23_, rfl, hQ⟩
          show ev_E g m_L_isBoard 6 (B + 3) 258 [some (ev_o 9 b0), some (ev_o 11 b1), some (ev_i u2), some (ev_o 10 w3), some (ev_i u4), some (ev_i u5), some (ev_i u6), some (ev_i u7), none] [ev_i (if v23_ = true then 1 else 0), ev_i 0] S23 Q
          by_cases c31 : v23_ = true
          · rw [if_pos c31]
            replace hQ := hQ.1 c31
            refine ev_icmp_ne 323 dL_isBoard_258 (by decide) (fun _ => ?_) (fun h9 => absurd h9 (by decide : ¬ ((0 : Int32) = 1)))
            refine ev_iconst (0) dL_isBoard_323 rfl ?_
            refine ev_istore dL_isBoard_324 (Nat.le_of_ble_eq_true rfl) (ev_hw rfl) ?_
            show ev_E g m_L_isBoard 6 (B + 3) 326 [some (ev_o 9 b0), some (ev_o 11 b1), some (ev_i u2), some (ev_o 10 w3), some (ev_i u4), some (ev_i u5), some (ev_i u6), some (ev_i u7), some (ev_i 0)] [] S23 Q
            refine ev_fgm [true, false, true, true, false, false, true, true, true] ?_
            exact hQ
          · rw [if_neg c31]
            replace hQ := hQ.2 c31
            refine ev_icmp_ne 323 dL_isBoard_258 (by decide) (fun h9 => absurd (by decide : ((0 : Int32) = 0)) h9) (fun _ => ?_)
            refine ev_aload_n (ev_o 9 b0) dL_isBoard_261 rfl rfl ?_
            refine ev_iload_n (u2) dL_isBoard_262 rfl ?_
            refine ev_cV mv_X9_isOver 4 1 9 [ev_i u2] [] dL_isBoard_263 kw_1074 rfl (by decide) rfl (by decide) (by omega) (Nat.le_of_ble_eq_true rfl) hQ ?_ rfl
            rintro o S24 ⟨v24_, rfl, hQ⟩
            show ev_E g m_L_isBoard 6 (B + 2) 266 [some (ev_o 9 b0), some (ev_o 11 b1), some (ev_i u2), some (ev_o 10 w3), some (ev_i u4), some (ev_i u5), some (ev_i u6), some (ev_i u7), none] [ev_i (if v24_ = true then 1 else 0)] S24 Q
            by_cases c32 : v24_ = true
            · rw [if_pos c32]
              replace hQ := hQ.1 c32
              refine ev_aload_n (ev_o 11 b1) dL_isBoard_266 rfl rfl ?_
              refine ev_iload_n (u2) dL_isBoard_267 rfl ?_
              refine ev_cV mv_X11_isOver 2 0 11 [ev_i u2] [ev_i 1] dL_isBoard_268 kw_1040 rfl (by decide) rfl (by decide) (by omega) (Nat.le_of_ble_eq_true rfl) hQ ?_ rfl
              rintro o S25 ⟨v25_, rfl, hQ⟩
              show ev_E g m_L_isBoard 6 (B + 2) 271 [some (ev_o 9 b0), some (ev_o 11 b1), some (ev_i u2), some (ev_o 10 w3), some (ev_i u4), some (ev_i u5), some (ev_i u6), some (ev_i u7), none] [ev_i (if v25_ = true then 1 else 0), ev_i 1] S25 Q
              by_cases c33 : v25_ = true
              · rw [if_pos c33]
                replace hQ := hQ.1 c33
                refine ev_icmp_ne 323 dL_isBoard_271 (by decide) (fun h9 => absurd (by decide : ((1 : Int32) = 1)) h9) (fun _ => ?_)
                refine ev_aload_n (ev_o 9 b0) dL_isBoard_274 rfl rfl ?_
                refine ev_iload_n (u2) dL_isBoard_275 rfl ?_
                refine ev_cV mv_X9_winner 4 1 9 [ev_i u2] [] dL_isBoard_276 kw_1079 rfl (by decide) rfl (by decide) (by omega) (Nat.le_of_ble_eq_true rfl) hQ ?_ rfl
                rintro o S26 ⟨v26_, rfl, hQ⟩
                show ev_E g m_L_isBoard 6 (B + 1) 279 [some (ev_o 9 b0), some (ev_o 11 b1), some (ev_i u2), some (ev_o 10 w3), some (ev_i u4), some (ev_i u5), some (ev_i u6), some (ev_i u7), none] [ev_i v26_] S26 Q
                refine ev_aload_n (ev_o 11 b1) dL_isBoard_279 rfl rfl ?_
                refine ev_iload_n (u2) dL_isBoard_280 rfl ?_
                refine ev_cV mv_X11_isOver 2 0 11 [ev_i u2] [ev_i v26_] dL_isBoard_281 kw_1040 rfl (by decide) rfl (by decide) (by omega) (Nat.le_of_ble_eq_true rfl) hQ ?_ rfl
                rintro o S27 ⟨v27_, rfl, hQ⟩
                show ev_E g m_L_isBoard 6 (B + 1) 284 [some (ev_o 9 b0), some (ev_o 11 b1), some (ev_i u2), some (ev_o 10 w3), some (ev_i u4), some (ev_i u5), some (ev_i u6), some (ev_i u7), none] [ev_i (if v27_ = true then 1 else 0), ev_i v26_] S27 Q
                by_cases c34 : v27_ = true
                · rw [if_pos c34]
                  replace hQ := hQ.1 c34
                  refine ev_if_eq 292 dL_isBoard_284 (by decide) (fun h9 => absurd h9 (by decide : ¬ ((1 : Int32) = 0))) (fun _ => ?_)
                  refine ev_iload (u5) dL_isBoard_287 rfl ?_
                  refine ev_if_ne 296 dL_isBoard_289 (by decide) (fun c35 => ?_) (fun c35 => ?_)
                  · replace hQ := hQ.2 c35
                    refine ev_iload (u5) dL_isBoard_296 rfl ?_
                    refine ev_if_le 305 dL_isBoard_298 (by decide) (fun c36 => ?_) (fun c36 => ?_)
                    · replace hQ := hQ.1 c36
                      refine ev_iconst (1) dL_isBoard_305 rfl ?_
                      refine ev_icmp_ne 323 dL_isBoard_306 (by decide) (fun c37 => ?_) (fun c37 => ?_)
                      · replace hQ := hQ.2 c37
                        refine ev_iconst (0) dL_isBoard_323 rfl ?_
                        refine ev_istore dL_isBoard_324 (Nat.le_of_ble_eq_true rfl) (ev_hw rfl) ?_
                        show ev_E g m_L_isBoard 6 (B + 1) 326 [some (ev_o 9 b0), some (ev_o 11 b1), some (ev_i u2), some (ev_o 10 w3), some (ev_i u4), some (ev_i u5), some (ev_i u6), some (ev_i u7), some (ev_i 0)] [] S27 Q
                        refine ev_fgm [true, false, true, true, false, false, true, true, true] ?_
                        exact hQ
                      · replace hQ := hQ.1 c37
                        refine ev_aload_n (ev_o 9 b0) dL_isBoard_309 rfl rfl ?_
                        refine ev_iload_n (u2) dL_isBoard_310 rfl ?_
                        refine ev_cV mv_X9_storedMoves 2 1 9 [ev_i u2] [] dL_isBoard_311 kw_1083 rfl (by decide) rfl (by decide) (by omega) (Nat.le_of_ble_eq_true rfl) hQ ?_ rfl
                        rintro o S28 ⟨v28_, rfl, hQ⟩
                        show ev_E g m_L_isBoard 6 B 314 [some (ev_o 9 b0), some (ev_o 11 b1), some (ev_i u2), some (ev_o 10 w3), some (ev_i u4), some (ev_i u5), some (ev_i u6), some (ev_i u7), none] [ev_i v28_] S28 Q
                        refine ev_iload (u4) dL_isBoard_314 rfl ?_
                        refine ev_icmp_ne 323 dL_isBoard_316 (by decide) (fun c38 => ?_) (fun c38 => ?_)
                        · replace hQ := hQ.2 c38
                          refine ev_iconst (0) dL_isBoard_323 rfl ?_
                          refine ev_istore dL_isBoard_324 (Nat.le_of_ble_eq_true rfl) (ev_hw rfl) ?_
                          show ev_E g m_L_isBoard 6 B 326 [some (ev_o 9 b0), some (ev_o 11 b1), some (ev_i u2), some (ev_o 10 w3), some (ev_i u4), some (ev_i u5), some (ev_i u6), some (ev_i u7), some (ev_i 0)] [] S28 Q
                          refine ev_fgm [true, false, true, true, false, false, true, true, true] ?_
                          exact hQ
                        · replace hQ := hQ.1 c38
                          refine ev_iconst (1) dL_isBoard_319 rfl ?_
                          refine ev_goto 324 dL_isBoard_320 (by decide) ?_
                          refine ev_istore dL_isBoard_324 (Nat.le_of_ble_eq_true rfl) (ev_hw rfl) ?_
                          show ev_E g m_L_isBoard 6 B 326 [some (ev_o 9 b0), some (ev_o 11 b1), some (ev_i u2), some (ev_o 10 w3), some (ev_i u4), some (ev_i u5), some (ev_i u6), some (ev_i u7), some (ev_i 1)] [] S28 Q
                          refine ev_fgm [true, false, true, true, false, false, true, true, true] ?_
                          exact hQ
                    · replace hQ := hQ.2 c36
                      refine ev_iconst (0) dL_isBoard_301 rfl ?_
                      refine ev_goto 306 dL_isBoard_302 (by decide) ?_
                      refine ev_icmp_ne 323 dL_isBoard_306 (by decide) (fun c39 => ?_) (fun c39 => ?_)
                      · replace hQ := hQ.2 c39
                        refine ev_iconst (0) dL_isBoard_323 rfl ?_
                        refine ev_istore dL_isBoard_324 (Nat.le_of_ble_eq_true rfl) (ev_hw rfl) ?_
                        show ev_E g m_L_isBoard 6 (B + 1) 326 [some (ev_o 9 b0), some (ev_o 11 b1), some (ev_i u2), some (ev_o 10 w3), some (ev_i u4), some (ev_i u5), some (ev_i u6), some (ev_i u7), some (ev_i 0)] [] S27 Q
                        refine ev_fgm [true, false, true, true, false, false, true, true, true] ?_
                        exact hQ
                      · replace hQ := hQ.1 c39
                        refine ev_aload_n (ev_o 9 b0) dL_isBoard_309 rfl rfl ?_
                        refine ev_iload_n (u2) dL_isBoard_310 rfl ?_
                        refine ev_cV mv_X9_storedMoves 2 1 9 [ev_i u2] [] dL_isBoard_311 kw_1083 rfl (by decide) rfl (by decide) (by omega) (Nat.le_of_ble_eq_true rfl) hQ ?_ rfl
                        rintro o S29 ⟨v29_, rfl, hQ⟩
                        show ev_E g m_L_isBoard 6 B 314 [some (ev_o 9 b0), some (ev_o 11 b1), some (ev_i u2), some (ev_o 10 w3), some (ev_i u4), some (ev_i u5), some (ev_i u6), some (ev_i u7), none] [ev_i v29_] S29 Q
                        refine ev_iload (u4) dL_isBoard_314 rfl ?_
                        refine ev_icmp_ne 323 dL_isBoard_316 (by decide) (fun c40 => ?_) (fun c40 => ?_)
                        · replace hQ := hQ.2 c40
                          refine ev_iconst (0) dL_isBoard_323 rfl ?_
                          refine ev_istore dL_isBoard_324 (Nat.le_of_ble_eq_true rfl) (ev_hw rfl) ?_
                          show ev_E g m_L_isBoard 6 B 326 [some (ev_o 9 b0), some (ev_o 11 b1), some (ev_i u2), some (ev_o 10 w3), some (ev_i u4), some (ev_i u5), some (ev_i u6), some (ev_i u7), some (ev_i 0)] [] S29 Q
                          refine ev_fgm [true, false, true, true, false, false, true, true, true] ?_
                          exact hQ
                        · replace hQ := hQ.1 c40
                          refine ev_iconst (1) dL_isBoard_319 rfl ?_
                          refine ev_goto 324 dL_isBoard_320 (by decide) ?_
                          refine ev_istore dL_isBoard_324 (Nat.le_of_ble_eq_true rfl) (ev_hw rfl) ?_
                          show ev_E g m_L_isBoard 6 B 326 [some (ev_o 9 b0), some (ev_o 11 b1), some (ev_i u2), some (ev_o 10 w3), some (ev_i u4), some (ev_i u5), some (ev_i u6), some (ev_i u7), some (ev_i 1)] [] S29 Q
                          refine ev_fgm [true, false, true, true, false, false, true, true, true] ?_
                          exact hQ
                  · replace hQ := hQ.1 c35
                    refine ev_iconst (-1) dL_isBoard_292 rfl ?_
                    refine ev_goto 306 dL_isBoard_293 (by decide) ?_
                    refine ev_icmp_ne 323 dL_isBoard_306 (by decide) (fun c41 => ?_) (fun c41 => ?_)
                    · replace hQ := hQ.2 c41
                      refine ev_iconst (0) dL_isBoard_323 rfl ?_
                      refine ev_istore dL_isBoard_324 (Nat.le_of_ble_eq_true rfl) (ev_hw rfl) ?_
                      show ev_E g m_L_isBoard 6 (B + 1) 326 [some (ev_o 9 b0), some (ev_o 11 b1), some (ev_i u2), some (ev_o 10 w3), some (ev_i u4), some (ev_i u5), some (ev_i u6), some (ev_i u7), some (ev_i 0)] [] S27 Q
                      refine ev_fgm [true, false, true, true, false, false, true, true, true] ?_
                      exact hQ
                    · replace hQ := hQ.1 c41
                      refine ev_aload_n (ev_o 9 b0) dL_isBoard_309 rfl rfl ?_
                      refine ev_iload_n (u2) dL_isBoard_310 rfl ?_
                      refine ev_cV mv_X9_storedMoves 2 1 9 [ev_i u2] [] dL_isBoard_311 kw_1083 rfl (by decide) rfl (by decide) (by omega) (Nat.le_of_ble_eq_true rfl) hQ ?_ rfl
                      rintro o S30 ⟨v30_, rfl, hQ⟩
                      show ev_E g m_L_isBoard 6 B 314 [some (ev_o 9 b0), some (ev_o 11 b1), some (ev_i u2), some (ev_o 10 w3), some (ev_i u4), some (ev_i u5), some (ev_i u6), some (ev_i u7), none] [ev_i v30_] S30 Q
                      refine ev_iload (u4) dL_isBoard_314 rfl ?_
                      refine ev_icmp_ne 323 dL_isBoard_316 (by decide) (fun c42 => ?_) (fun c42 => ?_)
                      · replace hQ := hQ.2 c42
                        refine ev_iconst (0) dL_isBoard_323 rfl ?_
                        refine ev_istore dL_isBoard_324 (Nat.le_of_ble_eq_true rfl) (ev_hw rfl) ?_
                        show ev_E g m_L_isBoard 6 B 326 [some (ev_o 9 b0), some (ev_o 11 b1), some (ev_i u2), some (ev_o 10 w3), some (ev_i u4), some (ev_i u5), some (ev_i u6), some (ev_i u7), some (ev_i 0)] [] S30 Q
                        refine ev_fgm [true, false, true, true, false, false, true, true, true] ?_
                        exact hQ
                      · replace hQ := hQ.1 c42
                        refine ev_iconst (1) dL_isBoard_319 rfl ?_
                        refine ev_goto 324 dL_isBoard_320 (by decide) ?_
                        refine ev_istore dL_isBoard_324 (Nat.le_of_ble_eq_true rfl) (ev_hw rfl) ?_
                        show ev_E g m_L_isBoard 6 B 326 [some (ev_o 9 b0), some (ev_o 11 b1), some (ev_i u2), some (ev_o 10 w3), some (ev_i u4), some (ev_i u5), some (ev_i u6), some (ev_i u7), some (ev_i 1)] [] S30 Q
                        refine ev_fgm [true, false, true, true, false, false, true, true, true] ?_
                        exact hQ
                · rw [if_neg c34]
                  replace hQ := hQ.2 c34
                  refine ev_if_eq 292 dL_isBoard_284 (by decide) (fun _ => ?_) (fun h9 => absurd (by decide : ((0 : Int32) = 0)) h9)
                  refine ev_iconst (-1) dL_isBoard_292 rfl ?_
                  refine ev_goto 306 dL_isBoard_293 (by decide) ?_
                  refine ev_icmp_ne 323 dL_isBoard_306 (by decide) (fun c43 => ?_) (fun c43 => ?_)
                  · replace hQ := hQ.2 c43
                    refine ev_iconst (0) dL_isBoard_323 rfl ?_
                    refine ev_istore dL_isBoard_324 (Nat.le_of_ble_eq_true rfl) (ev_hw rfl) ?_
                    show ev_E g m_L_isBoard 6 (B + 1) 326 [some (ev_o 9 b0), some (ev_o 11 b1), some (ev_i u2), some (ev_o 10 w3), some (ev_i u4), some (ev_i u5), some (ev_i u6), some (ev_i u7), some (ev_i 0)] [] S27 Q
                    refine ev_fgm [true, false, true, true, false, false, true, true, true] ?_
                    exact hQ
                  · replace hQ := hQ.1 c43
                    refine ev_aload_n (ev_o 9 b0) dL_isBoard_309 rfl rfl ?_
                    refine ev_iload_n (u2) dL_isBoard_310 rfl ?_
                    refine ev_cV mv_X9_storedMoves 2 1 9 [ev_i u2] [] dL_isBoard_311 kw_1083 rfl (by decide) rfl (by decide) (by omega) (Nat.le_of_ble_eq_true rfl) hQ ?_ rfl
                    rintro o S31 ⟨v31_, rfl, hQ⟩
                    show ev_E g m_L_isBoard 6 B 314 [some (ev_o 9 b0), some (ev_o 11 b1), some (ev_i u2), some (ev_o 10 w3), some (ev_i u4), some (ev_i u5), some (ev_i u6), some (ev_i u7), none] [ev_i v31_] S31 Q
                    refine ev_iload (u4) dL_isBoard_314 rfl ?_
                    refine ev_icmp_ne 323 dL_isBoard_316 (by decide) (fun c44 => ?_) (fun c44 => ?_)
                    · replace hQ := hQ.2 c44
                      refine ev_iconst (0) dL_isBoard_323 rfl ?_
                      refine ev_istore dL_isBoard_324 (Nat.le_of_ble_eq_true rfl) (ev_hw rfl) ?_
                      show ev_E g m_L_isBoard 6 B 326 [some (ev_o 9 b0), some (ev_o 11 b1), some (ev_i u2), some (ev_o 10 w3), some (ev_i u4), some (ev_i u5), some (ev_i u6), some (ev_i u7), some (ev_i 0)] [] S31 Q
                      refine ev_fgm [true, false, true, true, false, false, true, true, true] ?_
                      exact hQ
                    · replace hQ := hQ.1 c44
                      refine ev_iconst (1) dL_isBoard_319 rfl ?_
                      refine ev_goto 324 dL_isBoard_320 (by decide) ?_
                      refine ev_istore dL_isBoard_324 (Nat.le_of_ble_eq_true rfl) (ev_hw rfl) ?_
                      show ev_E g m_L_isBoard 6 B 326 [some (ev_o 9 b0), some (ev_o 11 b1), some (ev_i u2), some (ev_o 10 w3), some (ev_i u4), some (ev_i u5), some (ev_i u6), some (ev_i u7), some (ev_i 1)] [] S31 Q
                      refine ev_fgm [true, false, true, true, false, false, true, true, true] ?_
                      exact hQ
              · rw [if_neg c33]
                replace hQ := hQ.2 c33
                refine ev_icmp_ne 323 dL_isBoard_271 (by decide) (fun _ => ?_) (fun h9 => absurd h9 (by decide : ¬ ((1 : Int32) = 0)))
                refine ev_iconst (0) dL_isBoard_323 rfl ?_
                refine ev_istore dL_isBoard_324 (Nat.le_of_ble_eq_true rfl) (ev_hw rfl) ?_
                show ev_E g m_L_isBoard 6 (B + 2) 326 [some (ev_o 9 b0), some (ev_o 11 b1), some (ev_i u2), some (ev_o 10 w3), some (ev_i u4), some (ev_i u5), some (ev_i u6), some (ev_i u7), some (ev_i 0)] [] S25 Q
                refine ev_fgm [true, false, true, true, false, false, true, true, true] ?_
                exact hQ
            · rw [if_neg c32]
              replace hQ := hQ.2 c32
              refine ev_aload_n (ev_o 11 b1) dL_isBoard_266 rfl rfl ?_
              refine ev_iload_n (u2) dL_isBoard_267 rfl ?_
              refine ev_cV mv_X11_isOver 2 0 11 [ev_i u2] [ev_i 0] dL_isBoard_268 kw_1040 rfl (by decide) rfl (by decide) (by omega) (Nat.le_of_ble_eq_true rfl) hQ ?_ rfl
              rintro o S32 ⟨v32_, rfl, hQ⟩
              show ev_E g m_L_isBoard 6 (B + 2) 271 [some (ev_o 9 b0), some (ev_o 11 b1), some (ev_i u2), some (ev_o 10 w3), some (ev_i u4), some (ev_i u5), some (ev_i u6), some (ev_i u7), none] [ev_i (if v32_ = true then 1 else 0), ev_i 0] S32 Q
              by_cases c45 : v32_ = true
              · rw [if_pos c45]
                replace hQ := hQ.1 c45
                refine ev_icmp_ne 323 dL_isBoard_271 (by decide) (fun _ => ?_) (fun h9 => absurd h9 (by decide : ¬ ((0 : Int32) = 1)))
                refine ev_iconst (0) dL_isBoard_323 rfl ?_
                refine ev_istore dL_isBoard_324 (Nat.le_of_ble_eq_true rfl) (ev_hw rfl) ?_
                show ev_E g m_L_isBoard 6 (B + 2) 326 [some (ev_o 9 b0), some (ev_o 11 b1), some (ev_i u2), some (ev_o 10 w3), some (ev_i u4), some (ev_i u5), some (ev_i u6), some (ev_i u7), some (ev_i 0)] [] S32 Q
                refine ev_fgm [true, false, true, true, false, false, true, true, true] ?_
                exact hQ
              · rw [if_neg c45]
                replace hQ := hQ.2 c45
                refine ev_icmp_ne 323 dL_isBoard_271 (by decide) (fun h9 => absurd (by decide : ((0 : Int32) = 0)) h9) (fun _ => ?_)
                refine ev_aload_n (ev_o 9 b0) dL_isBoard_274 rfl rfl ?_
                refine ev_iload_n (u2) dL_isBoard_275 rfl ?_
                refine ev_cV mv_X9_winner 4 1 9 [ev_i u2] [] dL_isBoard_276 kw_1079 rfl (by decide) rfl (by decide) (by omega) (Nat.le_of_ble_eq_true rfl) hQ ?_ rfl
                rintro o S33 ⟨v33_, rfl, hQ⟩
                show ev_E g m_L_isBoard 6 (B + 1) 279 [some (ev_o 9 b0), some (ev_o 11 b1), some (ev_i u2), some (ev_o 10 w3), some (ev_i u4), some (ev_i u5), some (ev_i u6), some (ev_i u7), none] [ev_i v33_] S33 Q
                refine ev_aload_n (ev_o 11 b1) dL_isBoard_279 rfl rfl ?_
                refine ev_iload_n (u2) dL_isBoard_280 rfl ?_
                refine ev_cV mv_X11_isOver 2 0 11 [ev_i u2] [ev_i v33_] dL_isBoard_281 kw_1040 rfl (by decide) rfl (by decide) (by omega) (Nat.le_of_ble_eq_true rfl) hQ ?_ rfl
                rintro o S34 ⟨v34_, rfl, hQ⟩
                show ev_E g m_L_isBoard 6 (B + 1) 284 [some (ev_o 9 b0), some (ev_o 11 b1), some (ev_i u2), some (ev_o 10 w3), some (ev_i u4), some (ev_i u5), some (ev_i u6), some (ev_i u7), none] [ev_i (if v34_ = true then 1 else 0), ev_i v33_] S34 Q
                by_cases c46 : v34_ = true
                · rw [if_pos c46]
                  replace hQ := hQ.1 c46
                  refine ev_if_eq 292 dL_isBoard_284 (by decide) (fun h9 => absurd h9 (by decide : ¬ ((1 : Int32) = 0))) (fun _ => ?_)
                  refine ev_iload (u5) dL_isBoard_287 rfl ?_
                  refine ev_if_ne 296 dL_isBoard_289 (by decide) (fun c47 => ?_) (fun c47 => ?_)
                  · replace hQ := hQ.2 c47
                    refine ev_iload (u5) dL_isBoard_296 rfl ?_
                    refine ev_if_le 305 dL_isBoard_298 (by decide) (fun c48 => ?_) (fun c48 => ?_)
                    · replace hQ := hQ.1 c48
                      refine ev_iconst (1) dL_isBoard_305 rfl ?_
                      refine ev_icmp_ne 323 dL_isBoard_306 (by decide) (fun c49 => ?_) (fun c49 => ?_)
                      · replace hQ := hQ.2 c49
                        refine ev_iconst (0) dL_isBoard_323 rfl ?_
                        refine ev_istore dL_isBoard_324 (Nat.le_of_ble_eq_true rfl) (ev_hw rfl) ?_
                        show ev_E g m_L_isBoard 6 (B + 1) 326 [some (ev_o 9 b0), some (ev_o 11 b1), some (ev_i u2), some (ev_o 10 w3), some (ev_i u4), some (ev_i u5), some (ev_i u6), some (ev_i u7), some (ev_i 0)] [] S34 Q
                        refine ev_fgm [true, false, true, true, false, false, true, true, true] ?_
                        exact hQ
                      · replace hQ := hQ.1 c49
                        refine ev_aload_n (ev_o 9 b0) dL_isBoard_309 rfl rfl ?_
                        refine ev_iload_n (u2) dL_isBoard_310 rfl ?_
                        refine ev_cV mv_X9_storedMoves 2 1 9 [ev_i u2] [] dL_isBoard_311 kw_1083 rfl (by decide) rfl (by decide) (by omega) (Nat.le_of_ble_eq_true rfl) hQ ?_ rfl
                        rintro o S35 ⟨v35_, rfl, hQ⟩
                        show ev_E g m_L_isBoard 6 B 314 [some (ev_o 9 b0), some (ev_o 11 b1), some (ev_i u2), some (ev_o 10 w3), some (ev_i u4), some (ev_i u5), some (ev_i u6), some (ev_i u7), none] [ev_i v35_] S35 Q
                        refine ev_iload (u4) dL_isBoard_314 rfl ?_
                        refine ev_icmp_ne 323 dL_isBoard_316 (by decide) (fun c50 => ?_) (fun c50 => ?_)
                        · replace hQ := hQ.2 c50
                          refine ev_iconst (0) dL_isBoard_323 rfl ?_
                          refine ev_istore dL_isBoard_324 (Nat.le_of_ble_eq_true rfl) (ev_hw rfl) ?_
                          show ev_E g m_L_isBoard 6 B 326 [some (ev_o 9 b0), some (ev_o 11 b1), some (ev_i u2), some (ev_o 10 w3), some (ev_i u4), some (ev_i u5), some (ev_i u6), some (ev_i u7), some (ev_i 0)] [] S35 Q
                          refine ev_fgm [true, false, true, true, false, false, true, true, true] ?_
                          exact hQ
                        · replace hQ := hQ.1 c50
                          refine ev_iconst (1) dL_isBoard_319 rfl ?_
                          refine ev_goto 324 dL_isBoard_320 (by decide) ?_
                          refine ev_istore dL_isBoard_324 (Nat.le_of_ble_eq_true rfl) (ev_hw rfl) ?_
                          show ev_E g m_L_isBoard 6 B 326 [some (ev_o 9 b0), some (ev_o 11 b1), some (ev_i u2), some (ev_o 10 w3), some (ev_i u4), some (ev_i u5), some (ev_i u6), some (ev_i u7), some (ev_i 1)] [] S35 Q
                          refine ev_fgm [true, false, true, true, false, false, true, true, true] ?_
                          exact hQ
                    · replace hQ := hQ.2 c48
                      refine ev_iconst (0) dL_isBoard_301 rfl ?_
                      refine ev_goto 306 dL_isBoard_302 (by decide) ?_
                      refine ev_icmp_ne 323 dL_isBoard_306 (by decide) (fun c51 => ?_) (fun c51 => ?_)
                      · replace hQ := hQ.2 c51
                        refine ev_iconst (0) dL_isBoard_323 rfl ?_
                        refine ev_istore dL_isBoard_324 (Nat.le_of_ble_eq_true rfl) (ev_hw rfl) ?_
                        show ev_E g m_L_isBoard 6 (B + 1) 326 [some (ev_o 9 b0), some (ev_o 11 b1), some (ev_i u2), some (ev_o 10 w3), some (ev_i u4), some (ev_i u5), some (ev_i u6), some (ev_i u7), some (ev_i 0)] [] S34 Q
                        refine ev_fgm [true, false, true, true, false, false, true, true, true] ?_
                        exact hQ
                      · replace hQ := hQ.1 c51
                        refine ev_aload_n (ev_o 9 b0) dL_isBoard_309 rfl rfl ?_
                        refine ev_iload_n (u2) dL_isBoard_310 rfl ?_
                        refine ev_cV mv_X9_storedMoves 2 1 9 [ev_i u2] [] dL_isBoard_311 kw_1083 rfl (by decide) rfl (by decide) (by omega) (Nat.le_of_ble_eq_true rfl) hQ ?_ rfl
                        rintro o S36 ⟨v36_, rfl, hQ⟩
                        show ev_E g m_L_isBoard 6 B 314 [some (ev_o 9 b0), some (ev_o 11 b1), some (ev_i u2), some (ev_o 10 w3), some (ev_i u4), some (ev_i u5), some (ev_i u6), some (ev_i u7), none] [ev_i v36_] S36 Q
                        refine ev_iload (u4) dL_isBoard_314 rfl ?_
                        refine ev_icmp_ne 323 dL_isBoard_316 (by decide) (fun c52 => ?_) (fun c52 => ?_)
                        · replace hQ := hQ.2 c52
                          refine ev_iconst (0) dL_isBoard_323 rfl ?_
                          refine ev_istore dL_isBoard_324 (Nat.le_of_ble_eq_true rfl) (ev_hw rfl) ?_
                          show ev_E g m_L_isBoard 6 B 326 [some (ev_o 9 b0), some (ev_o 11 b1), some (ev_i u2), some (ev_o 10 w3), some (ev_i u4), some (ev_i u5), some (ev_i u6), some (ev_i u7), some (ev_i 0)] [] S36 Q
                          refine ev_fgm [true, false, true, true, false, false, true, true, true] ?_
                          exact hQ
                        · replace hQ := hQ.1 c52
                          refine ev_iconst (1) dL_isBoard_319 rfl ?_
                          refine ev_goto 324 dL_isBoard_320 (by decide) ?_
                          refine ev_istore dL_isBoard_324 (Nat.le_of_ble_eq_true rfl) (ev_hw rfl) ?_
                          show ev_E g m_L_isBoard 6 B 326 [some (ev_o 9 b0), some (ev_o 11 b1), some (ev_i u2), some (ev_o 10 w3), some (ev_i u4), some (ev_i u5), some (ev_i u6), some (ev_i u7), some (ev_i 1)] [] S36 Q
                          refine ev_fgm [true, false, true, true, false, false, true, true, true] ?_
                          exact hQ
                  · replace hQ := hQ.1 c47
                    refine ev_iconst (-1) dL_isBoard_292 rfl ?_
                    refine ev_goto 306 dL_isBoard_293 (by decide) ?_
                    refine ev_icmp_ne 323 dL_isBoard_306 (by decide) (fun c53 => ?_) (fun c53 => ?_)
                    · replace hQ := hQ.2 c53
                      refine ev_iconst (0) dL_isBoard_323 rfl ?_
                      refine ev_istore dL_isBoard_324 (Nat.le_of_ble_eq_true rfl) (ev_hw rfl) ?_
                      show ev_E g m_L_isBoard 6 (B + 1) 326 [some (ev_o 9 b0), some (ev_o 11 b1), some (ev_i u2), some (ev_o 10 w3), some (ev_i u4), some (ev_i u5), some (ev_i u6), some (ev_i u7), some (ev_i 0)] [] S34 Q
                      refine ev_fgm [true, false, true, true, false, false, true, true, true] ?_
                      exact hQ
                    · replace hQ := hQ.1 c53
                      refine ev_aload_n (ev_o 9 b0) dL_isBoard_309 rfl rfl ?_
                      refine ev_iload_n (u2) dL_isBoard_310 rfl ?_
                      refine ev_cV mv_X9_storedMoves 2 1 9 [ev_i u2] [] dL_isBoard_311 kw_1083 rfl (by decide) rfl (by decide) (by omega) (Nat.le_of_ble_eq_true rfl) hQ ?_ rfl
                      rintro o S37 ⟨v37_, rfl, hQ⟩
                      show ev_E g m_L_isBoard 6 B 314 [some (ev_o 9 b0), some (ev_o 11 b1), some (ev_i u2), some (ev_o 10 w3), some (ev_i u4), some (ev_i u5), some (ev_i u6), some (ev_i u7), none] [ev_i v37_] S37 Q
                      refine ev_iload (u4) dL_isBoard_314 rfl ?_
                      refine ev_icmp_ne 323 dL_isBoard_316 (by decide) (fun c54 => ?_) (fun c54 => ?_)
                      · replace hQ := hQ.2 c54
                        refine ev_iconst (0) dL_isBoard_323 rfl ?_
                        refine ev_istore dL_isBoard_324 (Nat.le_of_ble_eq_true rfl) (ev_hw rfl) ?_
                        show ev_E g m_L_isBoard 6 B 326 [some (ev_o 9 b0), some (ev_o 11 b1), some (ev_i u2), some (ev_o 10 w3), some (ev_i u4), some (ev_i u5), some (ev_i u6), some (ev_i u7), some (ev_i 0)] [] S37 Q
                        refine ev_fgm [true, false, true, true, false, false, true, true, true] ?_
                        exact hQ
                      · replace hQ := hQ.1 c54
                        refine ev_iconst (1) dL_isBoard_319 rfl ?_
                        refine ev_goto 324 dL_isBoard_320 (by decide) ?_
                        refine ev_istore dL_isBoard_324 (Nat.le_of_ble_eq_true rfl) (ev_hw rfl) ?_
                        show ev_E g m_L_isBoard 6 B 326 [some (ev_o 9 b0), some (ev_o 11 b1), some (ev_i u2), some (ev_o 10 w3), some (ev_i u4), some (ev_i u5), some (ev_i u6), some (ev_i u7), some (ev_i 1)] [] S37 Q
                        refine ev_fgm [true, false, true, true, false, false, true, true, true] ?_
                        exact hQ
                · rw [if_neg c46]
                  replace hQ := hQ.2 c46
                  refine ev_if_eq 292 dL_isBoard_284 (by decide) (fun _ => ?_) (fun h9 => absurd (by decide : ((0 : Int32) = 0)) h9)
                  refine ev_iconst (-1) dL_isBoard_292 rfl ?_
                  refine ev_goto 306 dL_isBoard_293 (by decide) ?_
                  refine ev_icmp_ne 323 dL_isBoard_306 (by decide) (fun c55 => ?_) (fun c55 => ?_)
                  · replace hQ := hQ.2 c55
                    refine ev_iconst (0) dL_isBoard_323 rfl ?_
                    refine ev_istore dL_isBoard_324 (Nat.le_of_ble_eq_true rfl) (ev_hw rfl) ?_
                    show ev_E g m_L_isBoard 6 (B + 1) 326 [some (ev_o 9 b0), some (ev_o 11 b1), some (ev_i u2), some (ev_o 10 w3), some (ev_i u4), some (ev_i u5), some (ev_i u6), some (ev_i u7), some (ev_i 0)] [] S34 Q
                    refine ev_fgm [true, false, true, true, false, false, true, true, true] ?_
                    exact hQ
                  · replace hQ := hQ.1 c55
                    refine ev_aload_n (ev_o 9 b0) dL_isBoard_309 rfl rfl ?_
                    refine ev_iload_n (u2) dL_isBoard_310 rfl ?_
                    refine ev_cV mv_X9_storedMoves 2 1 9 [ev_i u2] [] dL_isBoard_311 kw_1083 rfl (by decide) rfl (by decide) (by omega) (Nat.le_of_ble_eq_true rfl) hQ ?_ rfl
                    rintro o S38 ⟨v38_, rfl, hQ⟩
                    show ev_E g m_L_isBoard 6 B 314 [some (ev_o 9 b0), some (ev_o 11 b1), some (ev_i u2), some (ev_o 10 w3), some (ev_i u4), some (ev_i u5), some (ev_i u6), some (ev_i u7), none] [ev_i v38_] S38 Q
                    refine ev_iload (u4) dL_isBoard_314 rfl ?_
                    refine ev_icmp_ne 323 dL_isBoard_316 (by decide) (fun c56 => ?_) (fun c56 => ?_)
                    · replace hQ := hQ.2 c56
                      refine ev_iconst (0) dL_isBoard_323 rfl ?_
                      refine ev_istore dL_isBoard_324 (Nat.le_of_ble_eq_true rfl) (ev_hw rfl) ?_
                      show ev_E g m_L_isBoard 6 B 326 [some (ev_o 9 b0), some (ev_o 11 b1), some (ev_i u2), some (ev_o 10 w3), some (ev_i u4), some (ev_i u5), some (ev_i u6), some (ev_i u7), some (ev_i 0)] [] S38 Q
                      refine ev_fgm [true, false, true, true, false, false, true, true, true] ?_
                      exact hQ
                    · replace hQ := hQ.1 c56
                      refine ev_iconst (1) dL_isBoard_319 rfl ?_
                      refine ev_goto 324 dL_isBoard_320 (by decide) ?_
                      refine ev_istore dL_isBoard_324 (Nat.le_of_ble_eq_true rfl) (ev_hw rfl) ?_
                      show ev_E g m_L_isBoard 6 B 326 [some (ev_o 9 b0), some (ev_o 11 b1), some (ev_i u2), some (ev_o 10 w3), some (ev_i u4), some (ev_i u5), some (ev_i u6), some (ev_i u7), some (ev_i 1)] [] S38 Q
                      refine ev_fgm [true, false, true, true, false, false, true, true, true] ?_
                      exact hQ
set_option maxHeartbeats 4000000 in
set_option maxRecDepth 100000 in
theorem sg_L_isBoard_326 {g : ev_G} {S : ev_S} {Q : ev_O → ev_S → Prop} {B : Nat} (b0 : Nat) (b1 : Nat) (u2 : Int32) (w3 : Nat) (u6 : Int32) (u7 : Int32) (u8 : Int32) (hQ : (u8 = 0 → (
    Q (.inl (some (ev_i 0))) S)) ∧
  (¬ (u8 = 0) → (
    ev_Cv g m_X9_awaitedLetter 4 1 [ev_o 9 b0, ev_i u2] S (fun o S1 => ∃ v1_ : Int32, o = .inl (some (ev_i v1_)) ∧ (
      (v1_ = u6 → (
        ev_Cv g m_X9_reasonToWait 5 1 [ev_o 9 b0, ev_i u2] S1 (fun o S2 => ∃ v2_ : Int32, o = .inl (some (ev_i v2_)) ∧ (
          (v2_ = u7 → (
            ev_Cv g m_X9_keptPromises 2 1 [ev_o 9 b0, ev_i u2] S2 (fun o S3 => ∃ v3_ : Int32, o = .inl (some (ev_i v3_)) ∧ (
              (v3_ = (S3.1 w3 11) → (
                ev_Cv g m_X9_longestWait 2 1 [ev_o 9 b0, ev_i u2] S3 (fun o S4 => ∃ v4_ : Int32, o = .inl (some (ev_i v4_)) ∧ (
                  (v4_ = (S4.1 w3 8) → (
                    ev_Cv g m_X9_meanWait 2 1 [ev_o 9 b0, ev_i u2] S4 (fun o S5 => ∃ v5_ : UInt64, o = .inl (some (ev_d v5_)) ∧ (
                      ((S5.1 w3 10) = 0 → (
                        ((j_dcmpl v5_ 0) = 0 → (
                          Q (.inl (some (ev_i 1))) S5)) ∧
                        (¬ ((j_dcmpl v5_ 0) = 0) → (
                          Q (.inl (some (ev_i 0))) S5)))) ∧
                      (¬ ((S5.1 w3 10) = 0) → (
                        (vf_n64 (FP.ddiv (FP.i2d (S5.1 w3 9)) (FP.i2d (S5.1 w3 10)))) ∧ (
                          ((j_dcmpl v5_ (FP.ddiv (FP.i2d (S5.1 w3 9)) (FP.i2d (S5.1 w3 10)))) = 0 → (
                            Q (.inl (some (ev_i 1))) S5)) ∧
                          (¬ ((j_dcmpl v5_ (FP.ddiv (FP.i2d (S5.1 w3 9)) (FP.i2d (S5.1 w3 10)))) = 0) → (
                            Q (.inl (some (ev_i 0))) S5))))))))) ∧
                  (¬ (v4_ = (S4.1 w3 8)) → (
                    Q (.inl (some (ev_i 0))) S4)))))) ∧
              (¬ (v3_ = (S3.1 w3 11)) → (
                Q (.inl (some (ev_i 0))) S3)))))) ∧
          (¬ (v2_ = u7) → (
            Q (.inl (some (ev_i 0))) S2)))))) ∧
      (¬ (v1_ = u6) → (
        Q (.inl (some (ev_i 0))) S1))))))) : ev_E g m_L_isBoard 6 (B + 5) 326 [some (ev_o 9 b0), none, some (ev_i u2), some (ev_o 10 w3), none, none, some (ev_i u6), some (ev_i u7), some (ev_i u8)] [] S Q := by
  refine ev_iload (u8) dL_isBoard_326 rfl ?_
  refine ev_if_eq 410 dL_isBoard_328 (by decide) (fun c1 => ?_) (fun c1 => ?_)
  · replace hQ := hQ.1 c1
    refine ev_iconst (0) dL_isBoard_410 rfl ?_
    exact ev_ireturn .boolean dL_isBoard_411 rfl rfl hQ
  · replace hQ := hQ.2 c1
    refine ev_aload_n (ev_o 9 b0) dL_isBoard_331 rfl rfl ?_
    refine ev_iload_n (u2) dL_isBoard_332 rfl ?_
    refine ev_cV mv_X9_awaitedLetter 4 1 9 [ev_i u2] [] dL_isBoard_333 kw_1091 rfl (by decide) rfl (by decide) (by omega) (Nat.le_of_ble_eq_true rfl) hQ ?_ rfl
    rintro o S1 ⟨v1_, rfl, hQ⟩
    show ev_E g m_L_isBoard 6 (B + 4) 336 [some (ev_o 9 b0), none, some (ev_i u2), some (ev_o 10 w3), none, none, some (ev_i u6), some (ev_i u7), some (ev_i u8)] [ev_i v1_] S1 Q
    refine ev_iload (u6) dL_isBoard_336 rfl ?_
    refine ev_icmp_ne 410 dL_isBoard_338 (by decide) (fun c2 => ?_) (fun c2 => ?_)
    · replace hQ := hQ.2 c2
      refine ev_iconst (0) dL_isBoard_410 rfl ?_
      exact ev_ireturn .boolean dL_isBoard_411 rfl rfl hQ
    · replace hQ := hQ.1 c2
      refine ev_aload_n (ev_o 9 b0) dL_isBoard_341 rfl rfl ?_
      refine ev_iload_n (u2) dL_isBoard_342 rfl ?_
      refine ev_cV mv_X9_reasonToWait 5 1 9 [ev_i u2] [] dL_isBoard_343 kw_1117 rfl (by decide) rfl (by decide) (by omega) (Nat.le_of_ble_eq_true rfl) hQ ?_ rfl
      rintro o S2 ⟨v2_, rfl, hQ⟩
      show ev_E g m_L_isBoard 6 (B + 3) 346 [some (ev_o 9 b0), none, some (ev_i u2), some (ev_o 10 w3), none, none, some (ev_i u6), some (ev_i u7), some (ev_i u8)] [ev_i v2_] S2 Q
      refine ev_iload (u7) dL_isBoard_346 rfl ?_
      refine ev_icmp_ne 410 dL_isBoard_348 (by decide) (fun c3 => ?_) (fun c3 => ?_)
      · replace hQ := hQ.2 c3
        refine ev_iconst (0) dL_isBoard_410 rfl ?_
        exact ev_ireturn .boolean dL_isBoard_411 rfl rfl hQ
      · replace hQ := hQ.1 c3
        refine ev_aload_n (ev_o 9 b0) dL_isBoard_351 rfl rfl ?_
        refine ev_iload_n (u2) dL_isBoard_352 rfl ?_
        refine ev_cV mv_X9_keptPromises 2 1 9 [ev_i u2] [] dL_isBoard_353 kw_1126 rfl (by decide) rfl (by decide) (by omega) (Nat.le_of_ble_eq_true rfl) hQ ?_ rfl
        rintro o S3 ⟨v3_, rfl, hQ⟩
        show ev_E g m_L_isBoard 6 (B + 2) 356 [some (ev_o 9 b0), none, some (ev_i u2), some (ev_o 10 w3), none, none, some (ev_i u6), some (ev_i u7), some (ev_i u8)] [ev_i v3_] S3 Q
        refine ev_aload_n (ev_o 10 w3) dL_isBoard_356 rfl rfl ?_
        refine gn_10_11 dL_isBoard_357 (List.mem_of_getElem? (i := 19) rfl) ?_
        refine ev_icmp_ne 410 dL_isBoard_360 (by decide) (fun c4 => ?_) (fun c4 => ?_)
        · replace hQ := hQ.2 c4
          refine ev_iconst (0) dL_isBoard_410 rfl ?_
          exact ev_ireturn .boolean dL_isBoard_411 rfl rfl hQ
        · replace hQ := hQ.1 c4
          refine ev_aload_n (ev_o 9 b0) dL_isBoard_363 rfl rfl ?_
          refine ev_iload_n (u2) dL_isBoard_364 rfl ?_
          refine ev_cV mv_X9_longestWait 2 1 9 [ev_i u2] [] dL_isBoard_365 kw_1134 rfl (by decide) rfl (by decide) (by omega) (Nat.le_of_ble_eq_true rfl) hQ ?_ rfl
          rintro o S4 ⟨v4_, rfl, hQ⟩
          show ev_E g m_L_isBoard 6 (B + 1) 368 [some (ev_o 9 b0), none, some (ev_i u2), some (ev_o 10 w3), none, none, some (ev_i u6), some (ev_i u7), some (ev_i u8)] [ev_i v4_] S4 Q
          refine ev_aload_n (ev_o 10 w3) dL_isBoard_368 rfl rfl ?_
          refine gn_10_8 dL_isBoard_369 (List.mem_of_getElem? (i := 14) rfl) ?_
          refine ev_icmp_ne 410 dL_isBoard_372 (by decide) (fun c5 => ?_) (fun c5 => ?_)
          · replace hQ := hQ.2 c5
            refine ev_iconst (0) dL_isBoard_410 rfl ?_
            exact ev_ireturn .boolean dL_isBoard_411 rfl rfl hQ
          · replace hQ := hQ.1 c5
            refine ev_aload_n (ev_o 9 b0) dL_isBoard_375 rfl rfl ?_
            refine ev_iload_n (u2) dL_isBoard_376 rfl ?_
            refine ev_cV mv_X9_meanWait 2 1 9 [ev_i u2] [] dL_isBoard_377 kw_1142 rfl (by decide) rfl (by decide) (by omega) (Nat.le_of_ble_eq_true rfl) hQ ?_ rfl
            rintro o S5 ⟨v5_, rfl, hQ⟩
            show ev_E g m_L_isBoard 6 B 380 [some (ev_o 9 b0), none, some (ev_i u2), some (ev_o 10 w3), none, none, some (ev_i u6), some (ev_i u7), some (ev_i u8)] [ev_d v5_] S5 Q
            refine ev_aload_n (ev_o 10 w3) dL_isBoard_380 rfl rfl ?_
            refine gn_10_10 dL_isBoard_381 (List.mem_of_getElem? (i := 18) rfl) ?_
            refine ev_if_ne 391 dL_isBoard_384 (by decide) (fun c6 => ?_) (fun c6 => ?_)
            · replace hQ := hQ.2 c6
              refine ev_aload_n (ev_o 10 w3) dL_isBoard_391 rfl rfl ?_
              refine gn_10_9 dL_isBoard_392 (List.mem_of_getElem? (i := 16) rfl) ?_
              refine ev_i2d dL_isBoard_395 ?_
              refine ev_aload_n (ev_o 10 w3) dL_isBoard_396 rfl rfl ?_
              refine gn_10_10 dL_isBoard_397 (List.mem_of_getElem? (i := 18) rfl) ?_
              refine ev_i2d dL_isBoard_400 ?_
              obtain ⟨h1, hQ⟩ := hQ
              refine ev_ddiv dL_isBoard_401 h1 ?_
              refine ev_dcmp dL_isBoard_402 ?_
              show ev_E g m_L_isBoard 6 B 403 [some (ev_o 9 b0), none, some (ev_i u2), some (ev_o 10 w3), none, none, some (ev_i u6), some (ev_i u7), some (ev_i u8)] [ev_i (j_dcmpl v5_ (FP.ddiv (FP.i2d (S5.1 w3 9)) (FP.i2d (S5.1 w3 10))))] S5 Q
              refine ev_if_ne 410 dL_isBoard_403 (by decide) (fun c7 => ?_) (fun c7 => ?_)
              · replace hQ := hQ.2 c7
                refine ev_iconst (0) dL_isBoard_410 rfl ?_
                exact ev_ireturn .boolean dL_isBoard_411 rfl rfl hQ
              · replace hQ := hQ.1 c7
                refine ev_iconst (1) dL_isBoard_406 rfl ?_
                refine ev_goto 411 dL_isBoard_407 (by decide) ?_
                exact ev_ireturn .boolean dL_isBoard_411 rfl rfl hQ
            · replace hQ := hQ.1 c6
              refine ev_dconst0 dL_isBoard_387 ?_
              refine ev_goto 402 dL_isBoard_388 (by decide) ?_
              refine ev_dcmp dL_isBoard_402 ?_
              show ev_E g m_L_isBoard 6 B 403 [some (ev_o 9 b0), none, some (ev_i u2), some (ev_o 10 w3), none, none, some (ev_i u6), some (ev_i u7), some (ev_i u8)] [ev_i (j_dcmpl v5_ 0)] S5 Q
              refine ev_if_ne 410 dL_isBoard_403 (by decide) (fun c8 => ?_) (fun c8 => ?_)
              · replace hQ := hQ.2 c8
                refine ev_iconst (0) dL_isBoard_410 rfl ?_
                exact ev_ireturn .boolean dL_isBoard_411 rfl rfl hQ
              · replace hQ := hQ.1 c8
                refine ev_iconst (1) dL_isBoard_406 rfl ?_
                refine ev_goto 411 dL_isBoard_407 (by decide) ?_
                exact ev_ireturn .boolean dL_isBoard_411 rfl rfl hQ
