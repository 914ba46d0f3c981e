set_option maxHeartbeats 4000000 in
set_option maxRecDepth 100000 in
theorem sg_L_some_6 {g : ev_G} {S : ev_S} {Q : ev_O → ev_S → Prop} (b0 : Nat) (b1 : Nat) (u2 : Int32) (u3 : Int32) (u4 : Int32) (u5 : Int32) (hQ : (((S.1 b0 0) * (S.1 b0 0)) ≤ u5 → (
    (u4 = 0 → (
      Q (.inl (some (ev_i (-1)))) S)) ∧
    (¬ (u4 = 0) → (
      (¬ u4 = 0) ∧ (
        ev_E g m_L_some 2 0 101 [some (ev_o 11 b0), some (ev_o 10 b1), some (ev_i u2), none, none, some (ev_i (ev_rem u3 u4)), some (ev_i 0), none] [] S Q))))) ∧
  (¬ (((S.1 b0 0) * (S.1 b0 0)) ≤ u5) → (
    ev_E g m_L_some 2 0 23 [some (ev_o 11 b0), some (ev_o 10 b1), some (ev_i u2), some (ev_i u3), some (ev_i u4), some (ev_i u5), some (ev_i 0), none] [] S Q))) : ev_E g m_L_some 2 0 6 [some (ev_o 11 b0), some (ev_o 10 b1), some (ev_i u2), some (ev_i u3), some (ev_i u4), some (ev_i u5), none, none] [] S Q := by
  refine ev_iload (u5) dL_some_6 rfl ?_
  refine ev_aload_n (ev_o 11 b0) dL_some_8 rfl rfl ?_
  refine gn_11_0 dL_some_9 (List.mem_of_getElem? (i := 21) rfl) ?_
  refine ev_aload_n (ev_o 11 b0) dL_some_12 rfl rfl ?_
  refine gn_11_0 dL_some_13 (List.mem_of_getElem? (i := 21) rfl) ?_
  refine ev_imul dL_some_16 ?_
  refine ev_icmp_ge 85 dL_some_17 (by decide) (fun c1 => ?_) (fun c1 => ?_)
  · replace hQ := hQ.1 c1
    refine ev_iload (u4) dL_some_85 rfl ?_
    refine ev_if_ne 92 dL_some_87 (by decide) (fun c2 => ?_) (fun c2 => ?_)
    · replace hQ := hQ.2 c2
      refine ev_iload_n (u3) dL_some_92 rfl ?_
      refine ev_iload (u4) dL_some_93 rfl ?_
      obtain ⟨h1, hQ⟩ := hQ
      refine ev_irem dL_some_95 h1 ?_
      refine ev_istore dL_some_96 (Nat.le_of_ble_eq_true rfl) (ev_hw rfl) ?_
      show ev_E g m_L_some 2 0 98 [some (ev_o 11 b0), some (ev_o 10 b1), some (ev_i u2), some (ev_i u3), some (ev_i u4), some (ev_i (ev_rem u3 u4)), none, none] [] S Q
      refine ev_iconst (0) dL_some_98 rfl ?_
      refine ev_istore dL_some_99 (Nat.le_of_ble_eq_true rfl) (ev_hw rfl) ?_
      show ev_E g m_L_some 2 0 101 [some (ev_o 11 b0), some (ev_o 10 b1), some (ev_i u2), some (ev_i u3), some (ev_i u4), some (ev_i (ev_rem u3 u4)), some (ev_i 0), none] [] S Q
      refine ev_fgm [true, true, true, false, false, true, true, false] ?_
      exact hQ
    · replace hQ := hQ.1 c2
      refine ev_iconst (-1) dL_some_90 rfl ?_
      exact ev_ireturn .int dL_some_91 rfl rfl hQ
  · replace hQ := hQ.2 c1
    refine ev_iconst (0) dL_some_20 rfl ?_
    refine ev_istore dL_some_21 (Nat.le_of_ble_eq_true rfl) (ev_hw rfl) ?_
    show ev_E g m_L_some 2 0 23 [some (ev_o 11 b0), some (ev_o 10 b1), some (ev_i u2), some (ev_i u3), some (ev_i u4), some (ev_i u5), some (ev_i 0), none] [] S Q
    exact hQ
set_option maxHeartbeats 4000000 in
set_option maxRecDepth 100000 in
theorem sg_L_some_101 {g : ev_G} {S : ev_S} {Q : ev_O → ev_S → Prop} (b0 : Nat) (b1 : Nat) (u2 : Int32) (u5 : Int32) (u6 : Int32) (hQ : (((S.1 b0 0) * (S.1 b0 0)) ≤ u6 → (
    Q (.inl (some (ev_i (-1)))) S)) ∧
  (¬ (((S.1 b0 0) * (S.1 b0 0)) ≤ u6) → (
    ev_E g m_L_some 2 0 118 [some (ev_o 11 b0), some (ev_o 10 b1), some (ev_i u2), none, none, some (ev_i u5), some (ev_i u6), some (ev_i 0)] [] S Q))) : ev_E g m_L_some 2 0 101 [some (ev_o 11 b0), some (ev_o 10 b1), some (ev_i u2), none, none, some (ev_i u5), some (ev_i u6), none] [] S Q := by
  refine ev_iload (u6) dL_some_101 rfl ?_
  refine ev_aload_n (ev_o 11 b0) dL_some_103 rfl rfl ?_
  refine gn_11_0 dL_some_104 (List.mem_of_getElem? (i := 21) rfl) ?_
  refine ev_aload_n (ev_o 11 b0) dL_some_107 rfl rfl ?_
  refine gn_11_0 dL_some_108 (List.mem_of_getElem? (i := 21) rfl) ?_
  refine ev_imul dL_some_111 ?_
  refine ev_icmp_ge 190 dL_some_112 (by decide) (fun c1 => ?_) (fun c1 => ?_)
  · replace hQ := hQ.1 c1
    refine ev_iconst (-1) dL_some_190 rfl ?_
    exact ev_ireturn .int dL_some_191 rfl rfl hQ
  · replace hQ := hQ.2 c1
    refine ev_iconst (0) dL_some_115 rfl ?_
    refine ev_istore dL_some_116 (Nat.le_of_ble_eq_true rfl) (ev_hw rfl) ?_
    show ev_E g m_L_some 2 0 118 [some (ev_o 11 b0), some (ev_o 10 b1), some (ev_i u2), none, none, some (ev_i u5), some (ev_i u6), some (ev_i 0)] [] S Q
    exact hQ
set_option maxHeartbeats 4000000 in
set_option maxRecDepth 100000 in
theorem sg_L_some_23 {g : ev_G} {S : ev_S} {Q : ev_O → ev_S → Prop} (b0 : Nat) (b1 : Nat) (u2 : Int32) (u3 : Int32) (u4 : Int32) (u5 : Int32) (u6 : Int32) (hQ : (((S.1 b0 0) * (S.1 b0 0)) ≤ u6 → (
    ev_E g m_L_some 2 0 6 [some (ev_o 11 b0), some (ev_o 10 b1), some (ev_i u2), some (ev_i u3), some (ev_i u4), some (ev_i (u5 + 1)), none, none] [] S Q)) ∧
  (¬ (((S.1 b0 0) * (S.1 b0 0)) ≤ u6) → (
    (vp_in u5 64) ∧ (
      ((S.1 (b1 + 1) u5.toNatClampNeg) = u2 → (
        ev_Cv g m_X10_canGo 1 0 [ev_o 10 b1, ev_i (S.1 b0 0), ev_i u5, ev_i u6] S (fun o S1 => ∃ v1_ : Bool, o = .inl (some (ev_i (if v1_ = true then 1 else 0))) ∧ (
          (v1_ = true → (
            ev_E g m_L_some 2 0 23 [some (ev_o 11 b0), some (ev_o 10 b1), some (ev_i u2), some (ev_i u3), some (ev_i (u4 + 1)), some (ev_i u5), some (ev_i (u6 + 1)), none] [] S1 Q)) ∧
          (¬ (v1_ = true) → (
            ev_E g m_L_some 2 0 23 [some (ev_o 11 b0), some (ev_o 10 b1), some (ev_i u2), some (ev_i u3), some (ev_i (u4 + 0)), some (ev_i u5), some (ev_i (u6 + 1)), none] [] S1 Q)))))) ∧
      (¬ ((S.1 (b1 + 1) u5.toNatClampNeg) = u2) → (
        ev_E g m_L_some 2 0 6 [some (ev_o 11 b0), some (ev_o 10 b1), some (ev_i u2), some (ev_i u3), some (ev_i u4), some (ev_i (u5 + 1)), none, none] [] S Q)))))) : ev_E g m_L_some 2 0 23 [some (ev_o 11 b0), some (ev_o 10 b1), some (ev_i u2), some (ev_i u3), some (ev_i u4), some (ev_i u5), some (ev_i u6), none] [] S Q := by
  refine ev_iload (u6) dL_some_23 rfl ?_
  refine ev_aload_n (ev_o 11 b0) dL_some_25 rfl rfl ?_
  refine gn_11_0 dL_some_26 (List.mem_of_getElem? (i := 21) rfl) ?_
  refine ev_aload_n (ev_o 11 b0) dL_some_29 rfl rfl ?_
  refine gn_11_0 dL_some_30 (List.mem_of_getElem? (i := 21) rfl) ?_
  refine ev_imul dL_some_33 ?_
  refine ev_icmp_ge 79 dL_some_34 (by decide) (fun c1 => ?_) (fun c1 => ?_)
  · replace hQ := hQ.1 c1
    refine ev_iinc u5 (1) dL_some_79 rfl (by decide) (ev_hw rfl) ?_
    show ev_E g m_L_some 2 0 82 [some (ev_o 11 b0), some (ev_o 10 b1), some (ev_i u2), some (ev_i u3), some (ev_i u4), some (ev_i (u5 + 1)), some (ev_i u6), none] [] S Q
    refine ev_goto 6 dL_some_82 (by decide) ?_
    refine ev_fgm [true, true, true, true, true, true, false, false] ?_
    exact hQ
  · replace hQ := hQ.2 c1
    refine ev_aload_n (ev_o 10 b1) dL_some_37 rfl rfl ?_
    refine gn_10_0 dL_some_38 (List.mem_of_getElem? (i := 0) rfl) ?_
    refine ev_iload (u5) dL_some_41 rfl ?_
    obtain ⟨h1, hQ⟩ := hQ
    refine ev_iaload dL_some_43 h1 ?_
    refine ev_iload_n (u2) dL_some_44 rfl ?_
    refine ev_icmp_ne 79 dL_some_45 (by decide) (fun c2 => ?_) (fun c2 => ?_)
    · replace hQ := hQ.2 c2
      refine ev_iinc u5 (1) dL_some_79 rfl (by decide) (ev_hw rfl) ?_
      show ev_E g m_L_some 2 0 82 [some (ev_o 11 b0), some (ev_o 10 b1), some (ev_i u2), some (ev_i u3), some (ev_i u4), some (ev_i (u5 + 1)), some (ev_i u6), none] [] S Q
      refine ev_goto 6 dL_some_82 (by decide) ?_
      refine ev_fgm [true, true, true, true, true, true, false, false] ?_
      exact hQ
    · replace hQ := hQ.1 c2
      refine ev_iload (u4) dL_some_48 rfl ?_
      refine ev_aload_n (ev_o 10 b1) dL_some_50 rfl rfl ?_
      refine ev_aload_n (ev_o 11 b0) dL_some_51 rfl rfl ?_
      refine gn_11_0 dL_some_52 (List.mem_of_getElem? (i := 21) rfl) ?_
      refine ev_iload (u5) dL_some_55 rfl ?_
      refine ev_iload (u6) dL_some_57 rfl ?_
      refine ev_cV mv_X10_canGo 1 0 10 [ev_i (S.1 b0 0), ev_i u5, ev_i u6] [ev_i u4] dL_some_59 kw_1347 rfl (by decide) rfl (by decide) (by decide) (Nat.le_of_ble_eq_true rfl) hQ ?_ rfl
      rintro o S1 ⟨v1_, rfl, hQ⟩
      show ev_E g m_L_some 2 0 62 [some (ev_o 11 b0), some (ev_o 10 b1), some (ev_i u2), some (ev_i u3), some (ev_i u4), some (ev_i u5), some (ev_i u6), none] [ev_i (if v1_ = true then 1 else 0), ev_i u4] S1 Q
      by_cases c3 : v1_ = true
      · rw [if_pos c3]
        replace hQ := hQ.1 c3
        refine ev_if_eq 69 dL_some_62 (by decide) (fun h9 => absurd h9 (by decide : ¬ ((1 : Int32) = 0))) (fun _ => ?_)
        refine ev_iconst (1) dL_some_65 rfl ?_
        refine ev_goto 70 dL_some_66 (by decide) ?_
        refine ev_iadd dL_some_70 ?_
        refine ev_istore dL_some_71 (Nat.le_of_ble_eq_true rfl) (ev_hw rfl) ?_
        show ev_E g m_L_some 2 0 73 [some (ev_o 11 b0), some (ev_o 10 b1), some (ev_i u2), some (ev_i u3), some (ev_i (u4 + 1)), some (ev_i u5), some (ev_i u6), none] [] S1 Q
        refine ev_iinc u6 (1) dL_some_73 rfl (by decide) (ev_hw rfl) ?_
        show ev_E g m_L_some 2 0 76 [some (ev_o 11 b0), some (ev_o 10 b1), some (ev_i u2), some (ev_i u3), some (ev_i (u4 + 1)), some (ev_i u5), some (ev_i (u6 + 1)), none] [] S1 Q
        refine ev_goto 23 dL_some_76 (by decide) ?_
        exact hQ
      · rw [if_neg c3]
        replace hQ := hQ.2 c3
        refine ev_if_eq 69 dL_some_62 (by decide) (fun _ => ?_) (fun h9 => absurd (by decide : ((0 : Int32) = 0)) h9)
        refine ev_iconst (0) dL_some_69 rfl ?_
        refine ev_iadd dL_some_70 ?_
        refine ev_istore dL_some_71 (Nat.le_of_ble_eq_true rfl) (ev_hw rfl) ?_
        show ev_E g m_L_some 2 0 73 [some (ev_o 11 b0), some (ev_o 10 b1), some (ev_i u2), some (ev_i u3), some (ev_i (u4 + 0)), some (ev_i u5), some (ev_i u6), none] [] S1 Q
        refine ev_iinc u6 (1) dL_some_73 rfl (by decide) (ev_hw rfl) ?_
        show ev_E g m_L_some 2 0 76 [some (ev_o 11 b0), some (ev_o 10 b1), some (ev_i u2), some (ev_i u3), some (ev_i (u4 + 0)), some (ev_i u5), some (ev_i (u6 + 1)), none] [] S1 Q
        refine ev_goto 23 dL_some_76 (by decide) ?_
        exact hQ
set_option maxHeartbeats 4000000 in
set_option maxRecDepth 100000 in
theorem sg_L_some_118 {g : ev_G} {S : ev_S} {Q : ev_O → ev_S → Prop} (b0 : Nat) (b1 : Nat) (u2 : Int32) (u5 : Int32) (u6 : Int32) (u7 : Int32) (hQ : (((S.1 b0 0) * (S.1 b0 0)) ≤ u7 → (
    ev_E g m_L_some 2 0 101 [some (ev_o 11 b0), some (ev_o 10 b1), some (ev_i u2), none, none, some (ev_i u5), some (ev_i (u6 + 1)), none] [] S Q)) ∧
  (¬ (((S.1 b0 0) * (S.1 b0 0)) ≤ u7) → (
    (vp_in u6 64) ∧ (
      ((S.1 (b1 + 1) u6.toNatClampNeg) = u2 → (
        ev_Cv g m_X10_canGo 1 0 [ev_o 10 b1, ev_i (S.1 b0 0), ev_i u6, ev_i u7] S (fun o S1 => ∃ v1_ : Bool, o = .inl (some (ev_i (if v1_ = true then 1 else 0))) ∧ (
          (v1_ = true → (
            (u5 = 0 → (
              Q (.inl (some (ev_i ((64 * u6) + u7)))) S1)) ∧
            (¬ (u5 = 0) → (
              ev_E g m_L_some 2 0 118 [some (ev_o 11 b0), some (ev_o 10 b1), some (ev_i u2), none, none, some (ev_i (u5 + (-1))), some (ev_i u6), some (ev_i (u7 + 1))] [] S1 Q)))) ∧
          (¬ (v1_ = true) → (
            ev_E g m_L_some 2 0 118 [some (ev_o 11 b0), some (ev_o 10 b1), some (ev_i u2), none, none, some (ev_i u5), some (ev_i u6), some (ev_i (u7 + 1))] [] S1 Q)))))) ∧
      (¬ ((S.1 (b1 + 1) u6.toNatClampNeg) = u2) → (
        ev_E g m_L_some 2 0 101 [some (ev_o 11 b0), some (ev_o 10 b1), some (ev_i u2), none, none, some (ev_i u5), some (ev_i (u6 + 1)), none] [] S Q)))))) : ev_E g m_L_some 2 0 118 [some (ev_o 11 b0), some (ev_o 10 b1), some (ev_i u2), none, none, some (ev_i u5), some (ev_i u6), some (ev_i u7)] [] S Q := by
  refine ev_iload (u7) dL_some_118 rfl ?_
  refine ev_aload_n (ev_o 11 b0) dL_some_120 rfl rfl ?_
  refine gn_11_0 dL_some_121 (List.mem_of_getElem? (i := 21) rfl) ?_
  refine ev_aload_n (ev_o 11 b0) dL_some_124 rfl rfl ?_
  refine gn_11_0 dL_some_125 (List.mem_of_getElem? (i := 21) rfl) ?_
  refine ev_imul dL_some_128 ?_
  refine ev_icmp_ge 184 dL_some_129 (by decide) (fun c1 => ?_) (fun c1 => ?_)
  · replace hQ := hQ.1 c1
    refine ev_iinc u6 (1) dL_some_184 rfl (by decide) (ev_hw rfl) ?_
    show ev_E g m_L_some 2 0 187 [some (ev_o 11 b0), some (ev_o 10 b1), some (ev_i u2), none, none, some (ev_i u5), some (ev_i (u6 + 1)), some (ev_i u7)] [] S Q
    refine ev_goto 101 dL_some_187 (by decide) ?_
    refine ev_fgm [true, true, true, false, false, true, true, false] ?_
    exact hQ
  · replace hQ := hQ.2 c1
    refine ev_aload_n (ev_o 10 b1) dL_some_132 rfl rfl ?_
    refine gn_10_0 dL_some_133 (List.mem_of_getElem? (i := 0) rfl) ?_
    refine ev_iload (u6) dL_some_136 rfl ?_
    obtain ⟨h1, hQ⟩ := hQ
    refine ev_iaload dL_some_138 h1 ?_
    refine ev_iload_n (u2) dL_some_139 rfl ?_
    refine ev_icmp_ne 184 dL_some_140 (by decide) (fun c2 => ?_) (fun c2 => ?_)
    · replace hQ := hQ.2 c2
      refine ev_iinc u6 (1) dL_some_184 rfl (by decide) (ev_hw rfl) ?_
      show ev_E g m_L_some 2 0 187 [some (ev_o 11 b0), some (ev_o 10 b1), some (ev_i u2), none, none, some (ev_i u5), some (ev_i (u6 + 1)), some (ev_i u7)] [] S Q
      refine ev_goto 101 dL_some_187 (by decide) ?_
      refine ev_fgm [true, true, true, false, false, true, true, false] ?_
      exact hQ
    · replace hQ := hQ.1 c2
      refine ev_aload_n (ev_o 10 b1) dL_some_143 rfl rfl ?_
      refine ev_aload_n (ev_o 11 b0) dL_some_144 rfl rfl ?_
      refine gn_11_0 dL_some_145 (List.mem_of_getElem? (i := 21) rfl) ?_
      refine ev_iload (u6) dL_some_148 rfl ?_
      refine ev_iload (u7) dL_some_150 rfl ?_
      refine ev_cV mv_X10_canGo 1 0 10 [ev_i (S.1 b0 0), ev_i u6, ev_i u7] [] dL_some_152 kw_1347 rfl (by decide) rfl (by decide) (by decide) (Nat.le_of_ble_eq_true rfl) hQ ?_ rfl
      rintro o S1 ⟨v1_, rfl, hQ⟩
      show ev_E g m_L_some 2 0 155 [some (ev_o 11 b0), some (ev_o 10 b1), some (ev_i u2), none, none, some (ev_i u5), some (ev_i u6), some (ev_i u7)] [ev_i (if v1_ = true then 1 else 0)] S1 Q
      by_cases c3 : v1_ = true
      · rw [if_pos c3]
        replace hQ := hQ.1 c3
        refine ev_if_ne 161 dL_some_155 (by decide) (fun _ => ?_) (fun h9 => absurd h9 (by decide : ¬ ((1 : Int32) = 0)))
        refine ev_iload (u5) dL_some_161 rfl ?_
        refine ev_if_ne 175 dL_some_163 (by decide) (fun c4 => ?_) (fun c4 => ?_)
        · replace hQ := hQ.2 c4
          refine ev_iinc u5 (-1) dL_some_175 rfl (by decide) (ev_hw rfl) ?_
          show ev_E g m_L_some 2 0 178 [some (ev_o 11 b0), some (ev_o 10 b1), some (ev_i u2), none, none, some (ev_i (u5 + (-1))), some (ev_i u6), some (ev_i u7)] [] S1 Q
          refine ev_iinc u7 (1) dL_some_178 rfl (by decide) (ev_hw rfl) ?_
          show ev_E g m_L_some 2 0 181 [some (ev_o 11 b0), some (ev_o 10 b1), some (ev_i u2), none, none, some (ev_i (u5 + (-1))), some (ev_i u6), some (ev_i (u7 + 1))] [] S1 Q
          refine ev_goto 118 dL_some_181 (by decide) ?_
          exact hQ
        · replace hQ := hQ.1 c4
          refine ev_bipush (64) dL_some_166 (by decide) ?_
          refine ev_iload (u6) dL_some_168 rfl ?_
          refine ev_imul dL_some_170 ?_
          refine ev_iload (u7) dL_some_171 rfl ?_
          refine ev_iadd dL_some_173 ?_
          exact ev_ireturn .int dL_some_174 rfl rfl hQ
      · rw [if_neg c3]
        replace hQ := hQ.2 c3
        refine ev_if_ne 161 dL_some_155 (by decide) (fun h9 => absurd (by decide : ((0 : Int32) = 0)) h9) (fun _ => ?_)
        refine ev_goto 178 dL_some_158 (by decide) ?_
        refine ev_iinc u7 (1) dL_some_178 rfl (by decide) (ev_hw rfl) ?_
        show ev_E g m_L_some 2 0 181 [some (ev_o 11 b0), some (ev_o 10 b1), some (ev_i u2), none, none, some (ev_i u5), some (ev_i u6), some (ev_i (u7 + 1))] [] S1 Q
        refine ev_goto 118 dL_some_181 (by decide) ?_
        exact hQ

