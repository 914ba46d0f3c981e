set_option maxHeartbeats 4000000 in
set_option maxRecDepth 100000 in
theorem sg_X11_passes_120 {g : ev_G} {S : ev_S} {Q : ev_O → ev_S → Prop} (a : Nat) (u2 : Int32) (u3 : Int32) (hQ : ((S.1 a 4) ≤ u3 → (
    ev_E g m_X11_passes 5 0 108 [some (ev_o 11 a), none, some (ev_i (u2 + 1)), none] [] S Q)) ∧
  (¬ ((S.1 a 4) ≤ u3) → (
    (vp_in ((12 * (u2 / 2)) + (ev_rem ((S.1 a 2) / 30) 12)) 48) ∧ (
      (9 ≤ (S.1 (a + 18) ((12 * (u2 / 2)) + (ev_rem ((S.1 a 2) / 30) 12)).toNatClampNeg) → (
        ev_E g m_X11_passes 5 0 108 [some (ev_o 11 a), none, some (ev_i (u2 + 1)), none] [] S Q)) ∧
      (¬ (9 ≤ (S.1 (a + 18) ((12 * (u2 / 2)) + (ev_rem ((S.1 a 2) / 30) 12)).toNatClampNeg)) → (
        (vp_in u3 81) ∧ (
          ((S.1 (a + 24) u3.toNatClampNeg) = 0 → (
            ((S.1 (a + 20) u3.toNatClampNeg) = (u2 / 2) → (
              ((S.1 (a + 19) u3.toNatClampNeg) = (ev_rem u2 2) → (
                (vp_in u2 8) ∧ (
                  ((S.1 (a + 17) u2.toNatClampNeg) = 0 → (
                    ev_E g m_X11_passes 5 0 120 [some (ev_o 11 a), none, some (ev_i u2), some (ev_i (u3 + 1))] [] S Q)) ∧
                  (¬ ((S.1 (a + 17) u2.toNatClampNeg) = 0) → (
                    ∀ S1 : ev_S, S1 = (ev_up S (a + 17) u2.toNatClampNeg ((S.1 (a + 17) u2.toNatClampNeg) - 1)) → (
                      ∀ S2 : ev_S, S2 = (ev_up S1 a 6 ((S.1 a 6) + 1)) → (
                        ∀ S3 : ev_S, S3 = (ev_up S2 (a + 24) u3.toNatClampNeg 1) → (
                          ∀ S4 : ev_S, S4 = (ev_up S3 (a + 26) u3.toNatClampNeg ((S.1 a 6) + 1)) → (
                            (vp_in (u2 / 2) 4) ∧ (
                              (vp_in ((12 * (u2 / 2)) + (ev_rem ((S4.1 a 2) / 30) 12)) 48) ∧ (
                                ∀ S5 : ev_S, S5 = (ev_up S4 (a + 27) u3.toNatClampNeg ((S.1 (a + 16) (u2 / 2).toNatClampNeg) + (S.1 (a + 18) ((12 * (u2 / 2)) + (ev_rem ((S4.1 a 2) / 30) 12)).toNatClampNeg))) → (
                                  ev_E g m_X11_passes 5 0 120 [some (ev_o 11 a), none, some (ev_i u2), some (ev_i (u3 + 1))] [] S5 Q)))))))))))) ∧
              (¬ ((S.1 (a + 19) u3.toNatClampNeg) = (ev_rem u2 2)) → (
                ev_E g m_X11_passes 5 0 120 [some (ev_o 11 a), none, some (ev_i u2), some (ev_i (u3 + 1))] [] S Q)))) ∧
            (¬ ((S.1 (a + 20) u3.toNatClampNeg) = (u2 / 2)) → (
              ev_E g m_X11_passes 5 0 120 [some (ev_o 11 a), none, some (ev_i u2), some (ev_i (u3 + 1))] [] S Q)))) ∧
          (¬ ((S.1 (a + 24) u3.toNatClampNeg) = 0) → (
            ev_E g m_X11_passes 5 0 120 [some (ev_o 11 a), none, some (ev_i u2), some (ev_i (u3 + 1))] [] S Q))))))))) : ev_E g m_X11_passes 5 0 120 [some (ev_o 11 a), none, some (ev_i u2), some (ev_i u3)] [] S Q := by
  refine ev_iload_n (u3) dX11_passes_120 rfl ?_
  refine ev_aload_n (ev_o 11 a) dX11_passes_121 rfl rfl ?_
  refine gf_11_4 dX11_passes_122 kw_805 ?_
  refine ev_icmp_ge 250 dX11_passes_125 (by decide) (fun c1 => ?_) (fun c1 => ?_)
  · replace hQ := hQ.1 c1
    refine ev_iinc u2 (1) dX11_passes_250 rfl (by decide) (ev_hw rfl) ?_
    show ev_E g m_X11_passes 5 0 253 [some (ev_o 11 a), none, some (ev_i (u2 + 1)), some (ev_i u3)] [] S Q
    refine ev_goto 108 dX11_passes_253 (by decide) ?_
    refine ev_fgm [true, false, true, false] ?_
    exact hQ
  · replace hQ := hQ.2 c1
    refine ev_aload_n (ev_o 11 a) dX11_passes_128 rfl rfl ?_
    refine ev_iload_n (u2) dX11_passes_129 rfl ?_
    refine ev_iconst (2) dX11_passes_130 rfl ?_
    refine ev_idiv dX11_passes_131 (by decide) ?_
    obtain ⟨h1, hQ⟩ := hQ
    refine ev_fV mv_X11_depth 2 11 [ev_i (u2 / 2)] [] dX11_passes_132 kw_1375 rfl (by decide) rfl (by decide) (Nat.le_of_ble_eq_true rfl) (sp_X11_depth a (u2 / 2) h1) ?_ rfl
    refine ev_bipush (9) dX11_passes_135 (by decide) ?_
    refine ev_icmp_ge 250 dX11_passes_137 (by decide) (fun c2 => ?_) (fun c2 => ?_)
    · replace hQ := hQ.1 c2
      refine ev_iinc u2 (1) dX11_passes_250 rfl (by decide) (ev_hw rfl) ?_
      show ev_E g m_X11_passes 5 0 253 [some (ev_o 11 a), none, some (ev_i (u2 + 1)), some (ev_i u3)] [] S Q
      refine ev_goto 108 dX11_passes_253 (by decide) ?_
      refine ev_fgm [true, false, true, false] ?_
      exact hQ
    · replace hQ := hQ.2 c2
      refine ev_aload_n (ev_o 11 a) dX11_passes_140 rfl rfl ?_
      refine gf_11_20 dX11_passes_141 kw_835 ?_
      refine ev_iload_n (u3) dX11_passes_144 rfl ?_
      obtain ⟨h2, hQ⟩ := hQ
      refine ev_iaload dX11_passes_145 h2 ?_
      refine ev_if_ne 244 dX11_passes_146 (by decide) (fun c3 => ?_) (fun c3 => ?_)
      · replace hQ := hQ.2 c3
        refine ev_iinc u3 (1) dX11_passes_244 rfl (by decide) (ev_hw rfl) ?_
        show ev_E g m_X11_passes 5 0 247 [some (ev_o 11 a), none, some (ev_i u2), some (ev_i (u3 + 1))] [] S Q
        refine ev_goto 120 dX11_passes_247 (by decide) ?_
        exact hQ
      · replace hQ := hQ.1 c3
        refine ev_aload_n (ev_o 11 a) dX11_passes_149 rfl rfl ?_
        refine gf_11_16 dX11_passes_150 kw_828 ?_
        refine ev_iload_n (u3) dX11_passes_153 rfl ?_
        refine ev_iaload dX11_passes_154 h2 ?_
        refine ev_iload_n (u2) dX11_passes_155 rfl ?_
        refine ev_iconst (2) dX11_passes_156 rfl ?_
        refine ev_idiv dX11_passes_157 (by decide) ?_
        refine ev_icmp_ne 244 dX11_passes_158 (by decide) (fun c4 => ?_) (fun c4 => ?_)
        · replace hQ := hQ.2 c4
          refine ev_iinc u3 (1) dX11_passes_244 rfl (by decide) (ev_hw rfl) ?_
          show ev_E g m_X11_passes 5 0 247 [some (ev_o 11 a), none, some (ev_i u2), some (ev_i (u3 + 1))] [] S Q
          refine ev_goto 120 dX11_passes_247 (by decide) ?_
          exact hQ
        · replace hQ := hQ.1 c4
          refine ev_aload_n (ev_o 11 a) dX11_passes_161 rfl rfl ?_
          refine gf_11_15 dX11_passes_162 kw_826 ?_
          refine ev_iload_n (u3) dX11_passes_165 rfl ?_
          refine ev_iaload dX11_passes_166 h2 ?_
          refine ev_iload_n (u2) dX11_passes_167 rfl ?_
          refine ev_iconst (2) dX11_passes_168 rfl ?_
          refine ev_irem dX11_passes_169 (by decide) ?_
          refine ev_icmp_ne 244 dX11_passes_170 (by decide) (fun c5 => ?_) (fun c5 => ?_)
          · replace hQ := hQ.2 c5
            refine ev_iinc u3 (1) dX11_passes_244 rfl (by decide) (ev_hw rfl) ?_
            show ev_E g m_X11_passes 5 0 247 [some (ev_o 11 a), none, some (ev_i u2), some (ev_i (u3 + 1))] [] S Q
            refine ev_goto 120 dX11_passes_247 (by decide) ?_
            exact hQ
          · replace hQ := hQ.1 c5
            refine ev_aload_n (ev_o 11 a) dX11_passes_173 rfl rfl ?_
            refine gf_11_13 dX11_passes_174 kw_822 ?_
            refine ev_iload_n (u2) dX11_passes_177 rfl ?_
            obtain ⟨h3, hQ⟩ := hQ
            refine ev_iaload dX11_passes_178 h3 ?_
            refine ev_if_ne 185 dX11_passes_179 (by decide) (fun c6 => ?_) (fun c6 => ?_)
            · replace hQ := hQ.2 c6
              refine ev_aload_n (ev_o 11 a) dX11_passes_185 rfl rfl ?_
              refine gf_11_13 dX11_passes_186 kw_822 ?_
              refine ev_iload_n (u2) dX11_passes_189 rfl ?_
              refine ev_dup2 dX11_passes_190 rfl rfl ?_
              refine ev_iaload dX11_passes_191 h3 ?_
              refine ev_iconst (1) dX11_passes_192 rfl ?_
              refine ev_isub dX11_passes_193 ?_
              refine ev_iastore dX11_passes_194 h3 ?_
              refine ev_sub hQ (fun S1 hS1 hQ => ?_)
              refine ev_E.goal (pc' := 195) (L' := [some (ev_o 11 a), none, some (ev_i u2), some (ev_i u3)]) (K' := []) (S' := S1) ?_ rfl rfl rfl hS1
              refine ev_aload_n (ev_o 11 a) dX11_passes_195 rfl rfl ?_
              refine ev_dup dX11_passes_196 rfl ?_
              refine gf_11_6 dX11_passes_197 kw_809 ?_
              refine ev_ke (j_rk hS1 (Or.inl (by omega))) ?_
              refine ev_iconst (1) dX11_passes_200 rfl ?_
              refine ev_iadd dX11_passes_201 ?_
              refine pf_11_6 dX11_passes_202 kw_809 ?_
              refine ev_sub hQ (fun S2 hS2 hQ => ?_)
              refine ev_E.goal (pc' := 205) (L' := [some (ev_o 11 a), none, some (ev_i u2), some (ev_i u3)]) (K' := []) (S' := S2) ?_ rfl rfl rfl hS2
              refine ev_aload_n (ev_o 11 a) dX11_passes_205 rfl rfl ?_
              refine gf_11_20 dX11_passes_206 kw_835 ?_
              refine ev_iload_n (u3) dX11_passes_209 rfl ?_
              refine ev_iconst (1) dX11_passes_210 rfl ?_
              refine ev_iastore dX11_passes_211 h2 ?_
              refine ev_sub hQ (fun S3 hS3 hQ => ?_)
              refine ev_E.goal (pc' := 212) (L' := [some (ev_o 11 a), none, some (ev_i u2), some (ev_i u3)]) (K' := []) (S' := S3) ?_ rfl rfl rfl hS3
              refine ev_aload_n (ev_o 11 a) dX11_passes_212 rfl rfl ?_
              refine gf_11_22 dX11_passes_213 kw_838 ?_
              refine ev_iload_n (u3) dX11_passes_216 rfl ?_
              refine ev_aload_n (ev_o 11 a) dX11_passes_217 rfl rfl ?_
              refine gf_11_6 dX11_passes_218 kw_809 ?_
              refine ev_ke ((j_rk hS3 (Or.inl (by omega))).trans (j_rs hS2)) ?_
              refine ev_iastore dX11_passes_221 h2 ?_
              refine ev_sub hQ (fun S4 hS4 hQ => ?_)
              refine ev_E.goal (pc' := 222) (L' := [some (ev_o 11 a), none, some (ev_i u2), some (ev_i u3)]) (K' := []) (S' := S4) ?_ rfl rfl rfl hS4
              refine ev_aload_n (ev_o 11 a) dX11_passes_222 rfl rfl ?_
              refine gf_11_23 dX11_passes_223 kw_839 ?_
              refine ev_iload_n (u3) dX11_passes_226 rfl ?_
              refine ev_aload_n (ev_o 11 a) dX11_passes_227 rfl rfl ?_
              refine gf_11_12 dX11_passes_228 kw_820 ?_
              refine ev_iload_n (u2) dX11_passes_231 rfl ?_
              refine ev_iconst (2) dX11_passes_232 rfl ?_
              refine ev_idiv dX11_passes_233 (by decide) ?_
              obtain ⟨h4, hQ⟩ := hQ
              refine ev_iaload dX11_passes_234 h4 ?_
              refine ev_ke ((((j_rk hS4 (Or.inl (by omega))).trans (j_rk hS3 (Or.inl (by omega)))).trans (j_rk hS2 (Or.inl (by omega)))).trans (j_rk hS1 (Or.inl (by omega)))) ?_
              refine ev_aload_n (ev_o 11 a) dX11_passes_235 rfl rfl ?_
              refine ev_iload_n (u2) dX11_passes_236 rfl ?_
              refine ev_iconst (2) dX11_passes_237 rfl ?_
              refine ev_idiv dX11_passes_238 (by decide) ?_
              obtain ⟨h5, hQ⟩ := hQ
              refine ev_fV mv_X11_depth 2 11 [ev_i (u2 / 2)] [ev_i (S.1 (a + 16) (u2 / 2).toNatClampNeg), ev_i u3, ev_y 81 (a + 27)] dX11_passes_239 kw_1375 rfl (by decide) rfl (by decide) (Nat.le_of_ble_eq_true rfl) (sp_X11_depth a (u2 / 2) h5) ?_ rfl
              refine ev_ke ((((j_rk hS4 (Or.inl (by omega))).trans (j_rk hS3 (Or.inl (by omega)))).trans (j_rk hS2 (Or.inl (by omega)))).trans (j_rk hS1 (Or.inl (by omega)))) ?_
              refine ev_iadd dX11_passes_242 ?_
              refine ev_iastore dX11_passes_243 h2 ?_
              refine ev_sub hQ (fun S5 hS5 hQ => ?_)
              refine ev_E.goal (pc' := 244) (L' := [some (ev_o 11 a), none, some (ev_i u2), some (ev_i u3)]) (K' := []) (S' := S5) ?_ rfl rfl rfl hS5
              refine ev_iinc u3 (1) dX11_passes_244 rfl (by decide) (ev_hw rfl) ?_
              show ev_E g m_X11_passes 5 0 247 [some (ev_o 11 a), none, some (ev_i u2), some (ev_i (u3 + 1))] [] S5 Q
              refine ev_goto 120 dX11_passes_247 (by decide) ?_
              exact hQ
            · replace hQ := hQ.1 c6
              refine ev_goto 244 dX11_passes_182 (by decide) ?_
              refine ev_iinc u3 (1) dX11_passes_244 rfl (by decide) (ev_hw rfl) ?_
              show ev_E g m_X11_passes 5 0 247 [some (ev_o 11 a), none, some (ev_i u2), some (ev_i (u3 + 1))] [] S Q
              refine ev_goto 120 dX11_passes_247 (by decide) ?_
              exact hQ
set_option maxHeartbeats 4000000 in
set_option maxRecDepth 100000 in
theorem sg_X11_areEqual_0 {g : ev_G} {S : ev_S} {Q : ev_O → ev_S → Prop} (a : Nat) (hQ : ((S.1 (a + 2) 6) = (S.1 (a + 9) 6) → (
    ev_E g m_X11_areEqual 1 0 29 [some (ev_o 11 a), some (ev_i 1), some (ev_i 0)] [] S Q)) ∧
  (¬ ((S.1 (a + 2) 6) = (S.1 (a + 9) 6)) → (
    ev_E g m_X11_areEqual 1 0 29 [some (ev_o 11 a), some (ev_i 0), some (ev_i 0)] [] S Q))) : ev_Cv g m_X11_areEqual 1 0 [ev_o 11 a] S Q := by
  refine ev_enter (by decide) rfl rfl (Nat.le_of_ble_eq_true rfl) ?_
  show ev_E g m_X11_areEqual 1 0 0 [some (ev_o 11 a), none, none] [] S Q
  refine ev_aload_n (ev_o 11 a) dX11_areEqual_0 rfl rfl ?_
  refine gf_11_11 dX11_areEqual_1 kw_818 ?_
  refine ev_iconst (0) dX11_areEqual_4 rfl ?_
  refine ev_aalB dX11_areEqual_5 (j_vin (by decide)) ?_
  show ev_E g m_X11_areEqual 1 0 6 [some (ev_o 11 a), none, none] [ev_o 10 (a + 2)] S Q
  refine gn_10_6 dX11_areEqual_6 (List.mem_of_getElem? (i := 10) rfl) ?_
  refine ev_aload_n (ev_o 11 a) dX11_areEqual_9 rfl rfl ?_
  refine gf_11_11 dX11_areEqual_10 kw_818 ?_
  refine ev_iconst (1) dX11_areEqual_13 rfl ?_
  refine ev_aalB dX11_areEqual_14 (j_vin (by decide)) ?_
  show ev_E g m_X11_areEqual 1 0 15 [some (ev_o 11 a), none, none] [ev_o 10 (a + 9), ev_i (S.1 (a + 2) 6)] S Q
  refine gn_10_6 dX11_areEqual_15 (List.mem_of_getElem? (i := 10) rfl) ?_
  refine ev_icmp_ne 25 dX11_areEqual_18 (by decide) (fun c1 => ?_) (fun c1 => ?_)
  · replace hQ := hQ.2 c1
    refine ev_iconst (0) dX11_areEqual_25 rfl ?_
    refine ev_istore_n dX11_areEqual_26 (Nat.le_of_ble_eq_true rfl) (ev_hw rfl) ?_
    show ev_E g m_X11_areEqual 1 0 27 [some (ev_o 11 a), some (ev_i 0), none] [] S Q
    refine ev_iconst (0) dX11_areEqual_27 rfl ?_
    refine ev_istore_n dX11_areEqual_28 (Nat.le_of_ble_eq_true rfl) (ev_hw rfl) ?_
    show ev_E g m_X11_areEqual 1 0 29 [some (ev_o 11 a), some (ev_i 0), some (ev_i 0)] [] S Q
    exact hQ
  · replace hQ := hQ.1 c1
    refine ev_iconst (1) dX11_areEqual_21 rfl ?_
    refine ev_goto 26 dX11_areEqual_22 (by decide) ?_
    refine ev_istore_n dX11_areEqual_26 (Nat.le_of_ble_eq_true rfl) (ev_hw rfl) ?_
    show ev_E g m_X11_areEqual 1 0 27 [some (ev_o 11 a), some (ev_i 1), none] [] S Q
    refine ev_iconst (0) dX11_areEqual_27 rfl ?_
    refine ev_istore_n dX11_areEqual_28 (Nat.le_of_ble_eq_true rfl) (ev_hw rfl) ?_
    show ev_E g m_X11_areEqual 1 0 29 [some (ev_o 11 a), some (ev_i 1), some (ev_i 0)] [] S Q
    exact hQ
set_option maxHeartbeats 4000000 in
set_option maxRecDepth 100000 in
theorem sg_X11_areEqual_29 {g : ev_G} {S : ev_S} {Q : ev_O → ev_S → Prop} (a : Nat) (u1 : Int32) (u2 : Int32) (hQ : (64 ≤ u2 → (
    (narrow .boolean (.int u1) = .int u1) ∧ (
      Q (.inl (some (ev_i u1))) S))) ∧
  (¬ (64 ≤ u2) → (
    (u1 = 0 → (
      ev_E g m_X11_areEqual 1 0 29 [some (ev_o 11 a), some (ev_i 0), some (ev_i (u2 + 1))] [] S Q)) ∧
    (¬ (u1 = 0) → (
      (vp_in u2 64) ∧ (
        ((S.1 (a + 3) u2.toNatClampNeg) = (S.1 (a + 10) u2.toNatClampNeg) → (
          ev_E g m_X11_areEqual 1 0 29 [some (ev_o 11 a), some (ev_i 1), some (ev_i (u2 + 1))] [] S Q)) ∧
        (¬ ((S.1 (a + 3) u2.toNatClampNeg) = (S.1 (a + 10) u2.toNatClampNeg)) → (
          ev_E g m_X11_areEqual 1 0 29 [some (ev_o 11 a), some (ev_i 0), some (ev_i (u2 + 1))] [] S Q)))))))) : ev_E g m_X11_areEqual 1 0 29 [some (ev_o 11 a), some (ev_i u1), some (ev_i u2)] [] S Q := by
  refine ev_iload_n (u2) dX11_areEqual_29 rfl ?_
  refine ev_bipush (64) dX11_areEqual_30 (by decide) ?_
  refine ev_icmp_ge 76 dX11_areEqual_32 (by decide) (fun c1 => ?_) (fun c1 => ?_)
  · replace hQ := hQ.1 c1
    refine ev_iload_n (u1) dX11_areEqual_76 rfl ?_
    obtain ⟨h1, hQ⟩ := hQ
    exact ev_ireturn .boolean dX11_areEqual_77 rfl h1 hQ
  · replace hQ := hQ.2 c1
    refine ev_iload_n (u1) dX11_areEqual_35 rfl ?_
    refine ev_if_eq 68 dX11_areEqual_36 (by decide) (fun c2 => ?_) (fun c2 => ?_)
    · replace hQ := hQ.1 c2
      refine ev_iconst (0) dX11_areEqual_68 rfl ?_
      refine ev_istore_n dX11_areEqual_69 (Nat.le_of_ble_eq_true rfl) (ev_hw rfl) ?_
      show ev_E g m_X11_areEqual 1 0 70 [some (ev_o 11 a), some (ev_i 0), some (ev_i u2)] [] S Q
      refine ev_iinc u2 (1) dX11_areEqual_70 rfl (by decide) (ev_hw rfl) ?_
      show ev_E g m_X11_areEqual 1 0 73 [some (ev_o 11 a), some (ev_i 0), some (ev_i (u2 + 1))] [] S Q
      refine ev_goto 29 dX11_areEqual_73 (by decide) ?_
      exact hQ
    · replace hQ := hQ.2 c2
      refine ev_aload_n (ev_o 11 a) dX11_areEqual_39 rfl rfl ?_
      refine gf_11_11 dX11_areEqual_40 kw_818 ?_
      refine ev_iconst (0) dX11_areEqual_43 rfl ?_
      refine ev_aalB dX11_areEqual_44 (j_vin (by decide)) ?_
      show ev_E g m_X11_areEqual 1 0 45 [some (ev_o 11 a), some (ev_i u1), some (ev_i u2)] [ev_o 10 (a + 2)] S Q
      refine gn_10_0 dX11_areEqual_45 (List.mem_of_getElem? (i := 1) rfl) ?_
      refine ev_iload_n (u2) dX11_areEqual_48 rfl ?_
      obtain ⟨h2, hQ⟩ := hQ
      refine ev_iaload dX11_areEqual_49 h2 ?_
      refine ev_aload_n (ev_o 11 a) dX11_areEqual_50 rfl rfl ?_
      refine gf_11_11 dX11_areEqual_51 kw_818 ?_
      refine ev_iconst (1) dX11_areEqual_54 rfl ?_
      refine ev_aalB dX11_areEqual_55 (j_vin (by decide)) ?_
      show ev_E g m_X11_areEqual 1 0 56 [some (ev_o 11 a), some (ev_i u1), some (ev_i u2)] [ev_o 10 (a + 9), ev_i (S.1 (a + 3) u2.toNatClampNeg)] S Q
      refine gn_10_0 dX11_areEqual_56 (List.mem_of_getElem? (i := 1) rfl) ?_
      refine ev_iload_n (u2) dX11_areEqual_59 rfl ?_
      refine ev_iaload dX11_areEqual_60 h2 ?_
      refine ev_icmp_ne 68 dX11_areEqual_61 (by decide) (fun c3 => ?_) (fun c3 => ?_)
      · replace hQ := hQ.2 c3
        refine ev_iconst (0) dX11_areEqual_68 rfl ?_
        refine ev_istore_n dX11_areEqual_69 (Nat.le_of_ble_eq_true rfl) (ev_hw rfl) ?_
        show ev_E g m_X11_areEqual 1 0 70 [some (ev_o 11 a), some (ev_i 0), some (ev_i u2)] [] S Q
        refine ev_iinc u2 (1) dX11_areEqual_70 rfl (by decide) (ev_hw rfl) ?_
        show ev_E g m_X11_areEqual 1 0 73 [some (ev_o 11 a), some (ev_i 0), some (ev_i (u2 + 1))] [] S Q
        refine ev_goto 29 dX11_areEqual_73 (by decide) ?_
        exact hQ
      · replace hQ := hQ.1 c3
        refine ev_iconst (1) dX11_areEqual_64 rfl ?_
        refine ev_goto 69 dX11_areEqual_65 (by decide) ?_
        refine ev_istore_n dX11_areEqual_69 (Nat.le_of_ble_eq_true rfl) (ev_hw rfl) ?_
        show ev_E g m_X11_areEqual 1 0 70 [some (ev_o 11 a), some (ev_i 1), some (ev_i u2)] [] S Q
        refine ev_iinc u2 (1) dX11_areEqual_70 rfl (by decide) (ev_hw rfl) ?_
        show ev_E g m_X11_areEqual 1 0 73 [some (ev_o 11 a), some (ev_i 1), some (ev_i (u2 + 1))] [] S Q
        refine ev_goto 29 dX11_areEqual_73 (by decide) ?_
        exact hQ
set_option maxHeartbeats 4000000 in
set_option maxRecDepth 100000 in
theorem sg_X11_awaited_0 {g : ev_G} {S : ev_S} {Q : ev_O → ev_S → Prop} (a : Nat) (x0 : Int32) (hQ : ev_E g m_X11_awaited 1 0 2 [some (ev_o 11 a), some (ev_i x0), some (ev_i 0)] [] S Q) : ev_Cv g m_X11_awaited 1 0 [ev_o 11 a, ev_i x0] S Q := by
  refine ev_enter (by decide) rfl rfl (Nat.le_of_ble_eq_true rfl) ?_
  show ev_E g m_X11_awaited 1 0 0 [some (ev_o 11 a), some (ev_i x0), none] [] S Q
  refine ev_iconst (0) dX11_awaited_0 rfl ?_
  refine ev_istore_n dX11_awaited_1 (Nat.le_of_ble_eq_true rfl) (ev_hw rfl) ?_
  show ev_E g m_X11_awaited 1 0 2 [some (ev_o 11 a), some (ev_i x0), some (ev_i 0)] [] S Q
  exact hQ
