set_option maxHeartbeats 4000000 in
set_option maxRecDepth 100000 in
theorem sg_L_isAs_0 {g : ev_G} {S : ev_S} {Q : ev_O → ev_S → Prop} {B : Nat} (b0 : Nat) (b1 : Nat) (hQ : ev_Cv g m_L_isBoard 6 400 [ev_o 9 b0, ev_o 11 b1, ev_i 0] S (fun o S1 => ∃ v1_ : Bool, o = .inl (some (ev_i (if v1_ = true then 1 else 0))) ∧ (
    (v1_ = true → (
      ev_Cv g m_L_isBoard 6 400 [ev_o 9 b0, ev_o 11 b1, ev_i 1] S1 (fun o S2 => ∃ v2_ : Bool, o = .inl (some (ev_i (if v2_ = true then 1 else 0))) ∧ (
        (v2_ = true → (
          ev_E g m_L_isAs 7 B 22 [some (ev_o 9 b0), some (ev_o 11 b1), some (ev_i 0), none] [] S2 Q)) ∧
        (¬ (v2_ = true) → (
          Q (.inl (some (ev_i 0))) S2)))))) ∧
    (¬ (v1_ = true) → (
      Q (.inl (some (ev_i 0))) S1))))) : ev_Cv g m_L_isAs 7 (B + 800) [ev_o 9 b0, ev_o 11 b1] S Q := by
  refine ev_enter (by decide) rfl rfl (Nat.le_of_ble_eq_true rfl) ?_
  show ev_E g m_L_isAs 7 (B + 800) 0 [some (ev_o 9 b0), some (ev_o 11 b1), none, none] [] S Q
  refine ev_aload_n (ev_o 9 b0) dL_isAs_0 rfl rfl ?_
  refine ev_aload_n (ev_o 11 b1) dL_isAs_1 rfl rfl ?_
  refine ev_iconst (0) dL_isAs_2 rfl ?_
  refine ev_cS ms_L_isBoard 6 400 [ev_o 9 b0, ev_o 11 b1, ev_i 0] [] dL_isAs_3 kw_947 rfl (by decide) (by omega) (Nat.le_of_ble_eq_true rfl) hQ ?_ rfl
  rintro o S1 ⟨v1_, rfl, hQ⟩
  show ev_E g m_L_isAs 7 (B + 400) 6 [some (ev_o 9 b0), some (ev_o 11 b1), none, none] [ev_i (if v1_ = true then 1 else 0)] S1 Q
  by_cases c1 : v1_ = true
  · rw [if_pos c1]
    replace hQ := hQ.1 c1
    refine ev_if_eq 18 dL_isAs_6 (by decide) (fun h9 => absurd h9 (by decide : ¬ ((1 : Int32) = 0))) (fun _ => ?_)
    refine ev_aload_n (ev_o 9 b0) dL_isAs_9 rfl rfl ?_
    refine ev_aload_n (ev_o 11 b1) dL_isAs_10 rfl rfl ?_
    refine ev_iconst (1) dL_isAs_11 rfl ?_
    refine ev_cS ms_L_isBoard 6 400 [ev_o 9 b0, ev_o 11 b1, ev_i 1] [] dL_isAs_12 kw_947 rfl (by decide) (by omega) (Nat.le_of_ble_eq_true rfl) hQ ?_ rfl
    rintro o S2 ⟨v2_, rfl, hQ⟩
    show ev_E g m_L_isAs 7 B 15 [some (ev_o 9 b0), some (ev_o 11 b1), none, none] [ev_i (if v2_ = true then 1 else 0)] S2 Q
    by_cases c2 : v2_ = true
    · rw [if_pos c2]
      replace hQ := hQ.1 c2
      refine ev_if_ne 20 dL_isAs_15 (by decide) (fun _ => ?_) (fun h9 => absurd h9 (by decide : ¬ ((1 : Int32) = 0)))
      refine ev_iconst (0) dL_isAs_20 rfl ?_
      refine ev_istore_n dL_isAs_21 (Nat.le_of_ble_eq_true rfl) (ev_hw rfl) ?_
      show ev_E g m_L_isAs 7 B 22 [some (ev_o 9 b0), some (ev_o 11 b1), some (ev_i 0), none] [] S2 Q
      exact hQ
    · rw [if_neg c2]
      replace hQ := hQ.2 c2
      refine ev_if_ne 20 dL_isAs_15 (by decide) (fun h9 => absurd (by decide : ((0 : Int32) = 0)) h9) (fun _ => ?_)
      refine ev_iconst (0) dL_isAs_18 rfl ?_
      exact ev_ireturn .boolean dL_isAs_19 rfl rfl hQ
  · rw [if_neg c1]
    replace hQ := hQ.2 c1
    refine ev_if_eq 18 dL_isAs_6 (by decide) (fun _ => ?_) (fun h9 => absurd (by decide : ((0 : Int32) = 0)) h9)
    refine ev_iconst (0) dL_isAs_18 rfl ?_
    exact ev_ireturn .boolean dL_isAs_19 rfl rfl hQ
set_option maxHeartbeats 4000000 in
set_option maxRecDepth 100000 in
theorem sg_L_isAs_22 {g : ev_G} {S : ev_S} {Q : ev_O → ev_S → Prop} {B : Nat} (b0 : Nat) (b1 : Nat) (u2 : Int32) (hQ : ((S.1 b1 3) ≤ u2 → (
    ev_E g m_L_isAs 7 B 159 [some (ev_o 9 b0), some (ev_o 11 b1), some (ev_i 0), none] [] S Q)) ∧
  (¬ ((S.1 b1 3) ≤ u2) → (
    ev_E g m_L_isAs 7 B 32 [some (ev_o 9 b0), some (ev_o 11 b1), some (ev_i u2), some (ev_i 0)] [] S Q))) : ev_E g m_L_isAs 7 B 22 [some (ev_o 9 b0), some (ev_o 11 b1), some (ev_i u2), none] [] S Q := by
  refine ev_iload_n (u2) dL_isAs_22 rfl ?_
  refine ev_aload_n (ev_o 11 b1) dL_isAs_23 rfl rfl ?_
  refine gn_11_3 dL_isAs_24 (List.mem_of_getElem? (i := 24) rfl) ?_
  refine ev_icmp_ge 157 dL_isAs_27 (by decide) (fun c1 => ?_) (fun c1 => ?_)
  · replace hQ := hQ.1 c1
    refine ev_iconst (0) dL_isAs_157 rfl ?_
    refine ev_istore_n dL_isAs_158 (Nat.le_of_ble_eq_true rfl) (ev_hw rfl) ?_
    show ev_E g m_L_isAs 7 B 159 [some (ev_o 9 b0), some (ev_o 11 b1), some (ev_i 0), none] [] S Q
    exact hQ
  · replace hQ := hQ.2 c1
    refine ev_iconst (0) dL_isAs_30 rfl ?_
    refine ev_istore_n dL_isAs_31 (Nat.le_of_ble_eq_true rfl) (ev_hw rfl) ?_
    show ev_E g m_L_isAs 7 B 32 [some (ev_o 9 b0), some (ev_o 11 b1), some (ev_i u2), some (ev_i 0)] [] S Q
    exact hQ
set_option maxHeartbeats 4000000 in
set_option maxRecDepth 100000 in
theorem sg_L_isAs_159 {g : ev_G} {S : ev_S} {Q : ev_O → ev_S → Prop} {B : Nat} (b0 : Nat) (b1 : Nat) (u2 : Int32) (hQ : ((S.1 b1 4) ≤ u2 → (
    ((S.1 ((a_X2_deskOf (b0 + 11) 0) + 1) 4) = (S.1 b1 0) → (
      ((S.1 ((a_X2_deskOf (b0 + 11) 0) + 1) 5) = (S.1 b1 1) → (
        ((S.1 (b0 + 11) 4) = (S.1 b1 2) → (
          ((ev_rem ((S.1 (b0 + 11) 4) / 30) 12) = (ev_rem ((S.1 b1 2) / 30) 12) → (
            ((S.1 (b0 + 31) 3) = (S.1 b1 3) → (
              ((S.1 (b0 + 30) 13) = (S.1 b1 4) → (
                ev_Cv g m_X9_areBoardsEqual 5 0 [ev_o 9 b0] S (fun o S1 => ∃ v1_ : Bool, o = .inl (some (ev_i (if v1_ = true then 1 else 0))) ∧ (
                  (v1_ = true → (
                    ev_Cv g m_X11_areEqual 1 0 [ev_o 11 b1] S1 (fun o S2 => ∃ v2_ : Bool, o = .inl (some (ev_i (if v2_ = true then 1 else 0))) ∧ (
                      (v2_ = true → (
                        ((S2.1 (b0 + 11) 5) = (S2.1 b1 5) → (
                          ev_E g m_L_isAs 7 (B + 4) 325 [some (ev_o 9 b0), some (ev_o 11 b1), some (ev_i 1), none] [] S2 Q)) ∧
                        (¬ ((S2.1 (b0 + 11) 5) = (S2.1 b1 5)) → (
                          ev_E g m_L_isAs 7 (B + 4) 325 [some (ev_o 9 b0), some (ev_o 11 b1), some (ev_i 0), none] [] S2 Q)))) ∧
                      (¬ (v2_ = true) → (
                        ev_E g m_L_isAs 7 (B + 4) 325 [some (ev_o 9 b0), some (ev_o 11 b1), some (ev_i 0), none] [] S2 Q)))))) ∧
                  (¬ (v1_ = true) → (
                    ev_Cv g m_X11_areEqual 1 0 [ev_o 11 b1] S1 (fun o S3 => ∃ v3_ : Bool, o = .inl (some (ev_i (if v3_ = true then 1 else 0))) ∧ (
                      (v3_ = true → (
                        ev_E g m_L_isAs 7 (B + 4) 325 [some (ev_o 9 b0), some (ev_o 11 b1), some (ev_i 0), none] [] S3 Q)) ∧
                      (¬ (v3_ = true) → (
                        ((S3.1 (b0 + 11) 5) = (S3.1 b1 5) → (
                          ev_E g m_L_isAs 7 (B + 4) 325 [some (ev_o 9 b0), some (ev_o 11 b1), some (ev_i 1), none] [] S3 Q)) ∧
                        (¬ ((S3.1 (b0 + 11) 5) = (S3.1 b1 5)) → (
                          ev_E g m_L_isAs 7 (B + 4) 325 [some (ev_o 9 b0), some (ev_o 11 b1), some (ev_i 0), none] [] S3 Q)))))))))))) ∧
              (¬ ((S.1 (b0 + 30) 13) = (S.1 b1 4)) → (
                ev_E g m_L_isAs 7 (B + 4) 325 [some (ev_o 9 b0), some (ev_o 11 b1), some (ev_i 0), none] [] S Q)))) ∧
            (¬ ((S.1 (b0 + 31) 3) = (S.1 b1 3)) → (
              ev_E g m_L_isAs 7 (B + 4) 325 [some (ev_o 9 b0), some (ev_o 11 b1), some (ev_i 0), none] [] S Q)))) ∧
          (¬ ((ev_rem ((S.1 (b0 + 11) 4) / 30) 12) = (ev_rem ((S.1 b1 2) / 30) 12)) → (
            ev_E g m_L_isAs 7 (B + 4) 325 [some (ev_o 9 b0), some (ev_o 11 b1), some (ev_i 0), none] [] S Q)))) ∧
        (¬ ((S.1 (b0 + 11) 4) = (S.1 b1 2)) → (
          ev_E g m_L_isAs 7 (B + 4) 325 [some (ev_o 9 b0), some (ev_o 11 b1), some (ev_i 0), none] [] S Q)))) ∧
      (¬ ((S.1 ((a_X2_deskOf (b0 + 11) 0) + 1) 5) = (S.1 b1 1)) → (
        ev_E g m_L_isAs 7 (B + 4) 325 [some (ev_o 9 b0), some (ev_o 11 b1), some (ev_i 0), none] [] S Q)))) ∧
    (¬ ((S.1 ((a_X2_deskOf (b0 + 11) 0) + 1) 4) = (S.1 b1 0)) → (
      ev_E g m_L_isAs 7 (B + 4) 325 [some (ev_o 9 b0), some (ev_o 11 b1), some (ev_i 0), none] [] S Q)))) ∧
  (¬ ((S.1 b1 4) ≤ u2) → (
    ev_Cv g m_X9_writer 3 1 [ev_o 9 b0, ev_i u2] S (fun o S4 => ∃ v4_ : Int32, o = .inl (some (ev_i v4_)) ∧ (
      (vp_in u2 81) ∧ (
        (v4_ = (S4.1 (b1 + 19) u2.toNatClampNeg) → (
          ev_Cv g m_X9_letterNumber 3 1 [ev_o 9 b0, ev_i u2] S4 (fun o S5 => ∃ v5_ : Int32, o = .inl (some (ev_i v5_)) ∧ (
            (v5_ = (S5.1 (b1 + 21) u2.toNatClampNeg) → (
              ev_Cv g m_X9_isPromise 3 1 [ev_o 9 b0, ev_i u2] S5 (fun o S6 => ∃ v6_ : Bool, o = .inl (some (ev_i (if v6_ = true then 1 else 0))) ∧ (
                (v6_ = true → (
                  (1 = (S6.1 (b1 + 29) u2.toNatClampNeg) → (
                    ev_Cv g m_X9_letterState 3 1 [ev_o 9 b0, ev_i u2] S6 (fun o S7 => ∃ v7_ : Int32, o = .inl (some (ev_i v7_)) ∧ (
                      (v7_ = (S7.1 (b1 + 24) u2.toNatClampNeg) → (
                        ev_E g m_L_isAs 7 B 159 [some (ev_o 9 b0), some (ev_o 11 b1), some (ev_i (u2 + 1)), none] [] S7 Q)) ∧
                      (¬ (v7_ = (S7.1 (b1 + 24) u2.toNatClampNeg)) → (
                        Q (.inl (some (ev_i 0))) S7)))))) ∧
                  (¬ (1 = (S6.1 (b1 + 29) u2.toNatClampNeg)) → (
                    Q (.inl (some (ev_i 0))) S6)))) ∧
                (¬ (v6_ = true) → (
                  (0 = (S6.1 (b1 + 29) u2.toNatClampNeg) → (
                    ev_Cv g m_X9_letterState 3 1 [ev_o 9 b0, ev_i u2] S6 (fun o S8 => ∃ v8_ : Int32, o = .inl (some (ev_i v8_)) ∧ (
                      (v8_ = (S8.1 (b1 + 24) u2.toNatClampNeg) → (
                        ev_E g m_L_isAs 7 B 159 [some (ev_o 9 b0), some (ev_o 11 b1), some (ev_i (u2 + 1)), none] [] S8 Q)) ∧
                      (¬ (v8_ = (S8.1 (b1 + 24) u2.toNatClampNeg)) → (
                        Q (.inl (some (ev_i 0))) S8)))))) ∧
                  (¬ (0 = (S6.1 (b1 + 29) u2.toNatClampNeg)) → (
                    Q (.inl (some (ev_i 0))) S6)))))))) ∧
            (¬ (v5_ = (S5.1 (b1 + 21) u2.toNatClampNeg)) → (
              Q (.inl (some (ev_i 0))) S5)))))) ∧
        (¬ (v4_ = (S4.1 (b1 + 19) u2.toNatClampNeg)) → (
          Q (.inl (some (ev_i 0))) S4)))))))) : ev_E g m_L_isAs 7 (B + 4) 159 [some (ev_o 9 b0), some (ev_o 11 b1), some (ev_i u2), none] [] S Q := by
  refine ev_iload_n (u2) dL_isAs_159 rfl ?_
  refine ev_aload_n (ev_o 11 b1) dL_isAs_160 rfl rfl ?_
  refine gn_11_4 dL_isAs_161 (List.mem_of_getElem? (i := 25) rfl) ?_
  refine ev_icmp_ge 231 dL_isAs_164 (by decide) (fun c1 => ?_) (fun c1 => ?_)
  · replace hQ := hQ.1 c1
    refine ev_aload_n (ev_o 9 b0) dL_isAs_231 rfl rfl ?_
    refine ev_fV mv_X9_boardSize 3 9 [] [] dL_isAs_232 kw_1235 rfl (by decide) rfl (by decide) (Nat.le_of_ble_eq_true rfl) (sp_X9_boardSize b0) ?_ rfl
    refine ev_aload_n (ev_o 11 b1) dL_isAs_235 rfl rfl ?_
    refine gn_11_0 dL_isAs_236 (List.mem_of_getElem? (i := 21) rfl) ?_
    refine ev_icmp_ne 323 dL_isAs_239 (by decide) (fun c2 => ?_) (fun c2 => ?_)
    · replace hQ := hQ.2 c2
      refine ev_iconst (0) dL_isAs_323 rfl ?_
      refine ev_istore_n dL_isAs_324 (Nat.le_of_ble_eq_true rfl) (ev_hw rfl) ?_
      show ev_E g m_L_isAs 7 (B + 4) 325 [some (ev_o 9 b0), some (ev_o 11 b1), some (ev_i 0), none] [] S Q
      exact hQ
    · replace hQ := hQ.1 c2
      refine ev_aload_n (ev_o 9 b0) dL_isAs_242 rfl rfl ?_
      refine ev_fV mv_X9_moveLimit 3 9 [] [] dL_isAs_243 kw_1240 rfl (by decide) rfl (by decide) (Nat.le_of_ble_eq_true rfl) (sp_X9_moveLimit b0) ?_ rfl
      refine ev_aload_n (ev_o 11 b1) dL_isAs_246 rfl rfl ?_
      refine gn_11_1 dL_isAs_247 (List.mem_of_getElem? (i := 22) rfl) ?_
      refine ev_icmp_ne 323 dL_isAs_250 (by decide) (fun c3 => ?_) (fun c3 => ?_)
      · replace hQ := hQ.2 c3
        refine ev_iconst (0) dL_isAs_323 rfl ?_
        refine ev_istore_n dL_isAs_324 (Nat.le_of_ble_eq_true rfl) (ev_hw rfl) ?_
        show ev_E g m_L_isAs 7 (B + 4) 325 [some (ev_o 9 b0), some (ev_o 11 b1), some (ev_i 0), none] [] S Q
        exact hQ
      · replace hQ := hQ.1 c3
        refine ev_aload_n (ev_o 9 b0) dL_isAs_253 rfl rfl ?_
        refine ev_fV mv_X9_day 2 9 [] [] dL_isAs_254 kw_1248 rfl (by decide) rfl (by decide) (Nat.le_of_ble_eq_true rfl) (sp_X9_day b0) ?_ rfl
        refine ev_aload_n (ev_o 11 b1) dL_isAs_257 rfl rfl ?_
        refine gn_11_2 dL_isAs_258 (List.mem_of_getElem? (i := 23) rfl) ?_
        refine ev_icmp_ne 323 dL_isAs_261 (by decide) (fun c4 => ?_) (fun c4 => ?_)
        · replace hQ := hQ.2 c4
          refine ev_iconst (0) dL_isAs_323 rfl ?_
          refine ev_istore_n dL_isAs_324 (Nat.le_of_ble_eq_true rfl) (ev_hw rfl) ?_
          show ev_E g m_L_isAs 7 (B + 4) 325 [some (ev_o 9 b0), some (ev_o 11 b1), some (ev_i 0), none] [] S Q
          exact hQ
        · replace hQ := hQ.1 c4
          refine ev_aload_n (ev_o 9 b0) dL_isAs_264 rfl rfl ?_
          refine ev_fV mv_X9_month 2 9 [] [] dL_isAs_265 kw_1252 rfl (by decide) rfl (by decide) (Nat.le_of_ble_eq_true rfl) (sp_X9_month b0) ?_ rfl
          refine ev_aload_n (ev_o 11 b1) dL_isAs_268 rfl rfl ?_
          refine ev_fV mv_X11_month 1 11 [] [ev_i (ev_rem ((S.1 (b0 + 11) 4) / 30) 12)] dL_isAs_269 kw_1256 rfl (by decide) rfl (by decide) (Nat.le_of_ble_eq_true rfl) (sp_X11_month b1) ?_ rfl
          refine ev_icmp_ne 323 dL_isAs_272 (by decide) (fun c5 => ?_) (fun c5 => ?_)
          · replace hQ := hQ.2 c5
            refine ev_iconst (0) dL_isAs_323 rfl ?_
            refine ev_istore_n dL_isAs_324 (Nat.le_of_ble_eq_true rfl) (ev_hw rfl) ?_
            show ev_E g m_L_isAs 7 (B + 4) 325 [some (ev_o 9 b0), some (ev_o 11 b1), some (ev_i 0), none] [] S Q
            exact hQ
          · replace hQ := hQ.1 c5
            refine ev_aload_n (ev_o 9 b0) dL_isAs_275 rfl rfl ?_
            refine ev_fV mv_X9_passCount 3 9 [] [] dL_isAs_276 kw_1257 rfl (by decide) rfl (by decide) (Nat.le_of_ble_eq_true rfl) (sp_X9_passCount b0) ?_ rfl
            refine ev_aload_n (ev_o 11 b1) dL_isAs_279 rfl rfl ?_
            refine gn_11_3 dL_isAs_280 (List.mem_of_getElem? (i := 24) rfl) ?_
            refine ev_icmp_ne 323 dL_isAs_283 (by decide) (fun c6 => ?_) (fun c6 => ?_)
            · replace hQ := hQ.2 c6
              refine ev_iconst (0) dL_isAs_323 rfl ?_
              refine ev_istore_n dL_isAs_324 (Nat.le_of_ble_eq_true rfl) (ev_hw rfl) ?_
              show ev_E g m_L_isAs 7 (B + 4) 325 [some (ev_o 9 b0), some (ev_o 11 b1), some (ev_i 0), none] [] S Q
              exact hQ
            · replace hQ := hQ.1 c6
              refine ev_aload_n (ev_o 9 b0) dL_isAs_286 rfl rfl ?_
              refine ev_fV mv_X9_letterCount 2 9 [] [] dL_isAs_287 kw_1261 rfl (by decide) rfl (by decide) (Nat.le_of_ble_eq_true rfl) (sp_X9_letterCount b0) ?_ rfl
              refine ev_aload_n (ev_o 11 b1) dL_isAs_290 rfl rfl ?_
              refine gn_11_4 dL_isAs_291 (List.mem_of_getElem? (i := 25) rfl) ?_
              refine ev_icmp_ne 323 dL_isAs_294 (by decide) (fun c7 => ?_) (fun c7 => ?_)
              · replace hQ := hQ.2 c7
                refine ev_iconst (0) dL_isAs_323 rfl ?_
                refine ev_istore_n dL_isAs_324 (Nat.le_of_ble_eq_true rfl) (ev_hw rfl) ?_
                show ev_E g m_L_isAs 7 (B + 4) 325 [some (ev_o 9 b0), some (ev_o 11 b1), some (ev_i 0), none] [] S Q
                exact hQ
              · replace hQ := hQ.1 c7
                refine ev_aload_n (ev_o 9 b0) dL_isAs_297 rfl rfl ?_
                refine ev_cV mv_X9_areBoardsEqual 5 0 9 [] [] dL_isAs_298 kw_1266 rfl (by decide) rfl (by decide) (by omega) (Nat.le_of_ble_eq_true rfl) hQ ?_ rfl
                rintro o S1 ⟨v1_, rfl, hQ⟩
                show ev_E g m_L_isAs 7 (B + 4) 301 [some (ev_o 9 b0), some (ev_o 11 b1), some (ev_i u2), none] [ev_i (if v1_ = true then 1 else 0)] S1 Q
                by_cases c8 : v1_ = true
                · rw [if_pos c8]
                  replace hQ := hQ.1 c8
                  refine ev_aload_n (ev_o 11 b1) dL_isAs_301 rfl rfl ?_
                  refine ev_cV mv_X11_areEqual 1 0 11 [] [ev_i 1] dL_isAs_302 kw_1279 rfl (by decide) rfl (by decide) (by omega) (Nat.le_of_ble_eq_true rfl) hQ ?_ rfl
                  rintro o S2 ⟨v2_, rfl, hQ⟩
                  show ev_E g m_L_isAs 7 (B + 4) 305 [some (ev_o 9 b0), some (ev_o 11 b1), some (ev_i u2), none] [ev_i (if v2_ = true then 1 else 0), ev_i 1] S2 Q
                  by_cases c9 : v2_ = true
                  · rw [if_pos c9]
                    replace hQ := hQ.1 c9
                    refine ev_icmp_ne 323 dL_isAs_305 (by decide) (fun h9 => absurd (by decide : ((1 : Int32) = 1)) h9) (fun _ => ?_)
                    refine ev_aload_n (ev_o 9 b0) dL_isAs_308 rfl rfl ?_
                    refine ev_fV mv_X9_duplicateCount 2 9 [] [] dL_isAs_309 kw_1283 rfl (by decide) rfl (by decide) (Nat.le_of_ble_eq_true rfl) (sp_X9_duplicateCount b0) ?_ rfl
                    refine ev_aload_n (ev_o 11 b1) dL_isAs_312 rfl rfl ?_
                    refine gn_11_5 dL_isAs_313 (List.mem_of_getElem? (i := 26) rfl) ?_
                    refine ev_icmp_ne 323 dL_isAs_316 (by decide) (fun c10 => ?_) (fun c10 => ?_)
                    · replace hQ := hQ.2 c10
                      refine ev_iconst (0) dL_isAs_323 rfl ?_
                      refine ev_istore_n dL_isAs_324 (Nat.le_of_ble_eq_true rfl) (ev_hw rfl) ?_
                      show ev_E g m_L_isAs 7 (B + 4) 325 [some (ev_o 9 b0), some (ev_o 11 b1), some (ev_i 0), none] [] S2 Q
                      exact hQ
                    · replace hQ := hQ.1 c10
                      refine ev_iconst (1) dL_isAs_319 rfl ?_
                      refine ev_goto 324 dL_isAs_320 (by decide) ?_
                      refine ev_istore_n dL_isAs_324 (Nat.le_of_ble_eq_true rfl) (ev_hw rfl) ?_
                      show ev_E g m_L_isAs 7 (B + 4) 325 [some (ev_o 9 b0), some (ev_o 11 b1), some (ev_i 1), none] [] S2 Q
                      exact hQ
                  · rw [if_neg c9]
                    replace hQ := hQ.2 c9
                    refine ev_icmp_ne 323 dL_isAs_305 (by decide) (fun _ => ?_) (fun h9 => absurd h9 (by decide : ¬ ((1 : Int32) = 0)))
                    refine ev_iconst (0) dL_isAs_323 rfl ?_
                    refine ev_istore_n dL_isAs_324 (Nat.le_of_ble_eq_true rfl) (ev_hw rfl) ?_
                    show ev_E g m_L_isAs 7 (B + 4) 325 [some (ev_o 9 b0), some (ev_o 11 b1), some (ev_i 0), none] [] S2 Q
                    exact hQ
                · rw [if_neg c8]
                  replace hQ := hQ.2 c8
                  refine ev_aload_n (ev_o 11 b1) dL_isAs_301 rfl rfl ?_
                  refine ev_cV mv_X11_areEqual 1 0 11 [] [ev_i 0] dL_isAs_302 kw_1279 rfl (by decide) rfl (by decide) (by omega) (Nat.le_of_ble_eq_true rfl) hQ ?_ rfl
                  rintro o S3 ⟨v3_, rfl, hQ⟩
                  show ev_E g m_L_isAs 7 (B + 4) 305 [some (ev_o 9 b0), some (ev_o 11 b1), some (ev_i u2), none] [ev_i (if v3_ = true then 1 else 0), ev_i 0] S3 Q
                  by_cases c11 : v3_ = true
                  · rw [if_pos c11]
                    replace hQ := hQ.1 c11
                    refine ev_icmp_ne 323 dL_isAs_305 (by decide) (fun _ => ?_) (fun h9 => absurd h9 (by decide : ¬ ((0 : Int32) = 1)))
                    refine ev_iconst (0) dL_isAs_323 rfl ?_
                    refine ev_istore_n dL_isAs_324 (Nat.le_of_ble_eq_true rfl) (ev_hw rfl) ?_
                    show ev_E g m_L_isAs 7 (B + 4) 325 [some (ev_o 9 b0), some (ev_o 11 b1), some (ev_i 0), none] [] S3 Q
                    exact hQ
                  · rw [if_neg c11]
                    replace hQ := hQ.2 c11
                    refine ev_icmp_ne 323 dL_isAs_305 (by decide) (fun h9 => absurd (by decide : ((0 : Int32) = 0)) h9) (fun _ => ?_)
                    refine ev_aload_n (ev_o 9 b0) dL_isAs_308 rfl rfl ?_
                    refine ev_fV mv_X9_duplicateCount 2 9 [] [] dL_isAs_309 kw_1283 rfl (by decide) rfl (by decide) (Nat.le_of_ble_eq_true rfl) (sp_X9_duplicateCount b0) ?_ rfl
                    refine ev_aload_n (ev_o 11 b1) dL_isAs_312 rfl rfl ?_
                    refine gn_11_5 dL_isAs_313 (List.mem_of_getElem? (i := 26) rfl) ?_
                    refine ev_icmp_ne 323 dL_isAs_316 (by decide) (fun c12 => ?_) (fun c12 => ?_)
                    · replace hQ := hQ.2 c12
                      refine ev_iconst (0) dL_isAs_323 rfl ?_
                      refine ev_istore_n dL_isAs_324 (Nat.le_of_ble_eq_true rfl) (ev_hw rfl) ?_
                      show ev_E g m_L_isAs 7 (B + 4) 325 [some (ev_o 9 b0), some (ev_o 11 b1), some (ev_i 0), none] [] S3 Q
                      exact hQ
                    · replace hQ := hQ.1 c12
                      refine ev_iconst (1) dL_isAs_319 rfl ?_
                      refine ev_goto 324 dL_isAs_320 (by decide) ?_
                      refine ev_istore_n dL_isAs_324 (Nat.le_of_ble_eq_true rfl) (ev_hw rfl) ?_
                      show ev_E g m_L_isAs 7 (B + 4) 325 [some (ev_o 9 b0), some (ev_o 11 b1), some (ev_i 1), none] [] S3 Q
                      exact hQ
  · replace hQ := hQ.2 c1
    refine ev_aload_n (ev_o 9 b0) dL_isAs_167 rfl rfl ?_
    refine ev_iload_n (u2) dL_isAs_168 rfl ?_
    refine ev_cV mv_X9_writer 3 1 9 [ev_i u2] [] dL_isAs_169 kw_1209 rfl (by decide) rfl (by decide) (by omega) (Nat.le_of_ble_eq_true rfl) hQ ?_ rfl
    rintro o S4 ⟨v4_, rfl, hQ⟩
    show ev_E g m_L_isAs 7 (B + 3) 172 [some (ev_o 9 b0), some (ev_o 11 b1), some (ev_i u2), none] [ev_i v4_] S4 Q
    refine ev_aload_n (ev_o 11 b1) dL_isAs_172 rfl rfl ?_
    refine gn_11_15 dL_isAs_173 (List.mem_of_getElem? (i := 35) rfl) ?_
    refine ev_iload_n (u2) dL_isAs_176 rfl ?_
    obtain ⟨h1, hQ⟩ := hQ
    refine ev_iaload dL_isAs_177 h1 ?_
    refine ev_icmp_ne 223 dL_isAs_178 (by decide) (fun c13 => ?_) (fun c13 => ?_)
    · replace hQ := hQ.2 c13
      refine ev_iconst (0) dL_isAs_223 rfl ?_
      exact ev_ireturn .boolean dL_isAs_224 rfl rfl hQ
    · replace hQ := hQ.1 c13
      refine ev_aload_n (ev_o 9 b0) dL_isAs_181 rfl rfl ?_
      refine ev_iload_n (u2) dL_isAs_182 rfl ?_
      refine ev_cV mv_X9_letterNumber 3 1 9 [ev_i u2] [] dL_isAs_183 kw_1218 rfl (by decide) rfl (by decide) (by omega) (Nat.le_of_ble_eq_true rfl) hQ ?_ rfl
      rintro o S5 ⟨v5_, rfl, hQ⟩
      show ev_E g m_L_isAs 7 (B + 2) 186 [some (ev_o 9 b0), some (ev_o 11 b1), some (ev_i u2), none] [ev_i v5_] S5 Q
      refine ev_aload_n (ev_o 11 b1) dL_isAs_186 rfl rfl ?_
      refine gn_11_17 dL_isAs_187 (List.mem_of_getElem? (i := 36) rfl) ?_
      refine ev_iload_n (u2) dL_isAs_190 rfl ?_
      refine ev_iaload dL_isAs_191 h1 ?_
      refine ev_icmp_ne 223 dL_isAs_192 (by decide) (fun c14 => ?_) (fun c14 => ?_)
      · replace hQ := hQ.2 c14
        refine ev_iconst (0) dL_isAs_223 rfl ?_
        exact ev_ireturn .boolean dL_isAs_224 rfl rfl hQ
      · replace hQ := hQ.1 c14
        refine ev_aload_n (ev_o 9 b0) dL_isAs_195 rfl rfl ?_
        refine ev_iload_n (u2) dL_isAs_196 rfl ?_
        refine ev_cV mv_X9_isPromise 3 1 9 [ev_i u2] [] dL_isAs_197 kw_1223 rfl (by decide) rfl (by decide) (by omega) (Nat.le_of_ble_eq_true rfl) hQ ?_ rfl
        rintro o S6 ⟨v6_, rfl, hQ⟩
        show ev_E g m_L_isAs 7 (B + 1) 200 [some (ev_o 9 b0), some (ev_o 11 b1), some (ev_i u2), none] [ev_i (if v6_ = true then 1 else 0)] S6 Q
        by_cases c15 : v6_ = true
        · rw [if_pos c15]
          replace hQ := hQ.1 c15
          refine ev_aload_n (ev_o 11 b1) dL_isAs_200 rfl rfl ?_
          refine gn_11_25 dL_isAs_201 (List.mem_of_getElem? (i := 40) rfl) ?_
          refine ev_iload_n (u2) dL_isAs_204 rfl ?_
          refine ev_baload (n := 81) (by decide) dL_isAs_205 h1 ?_
          refine ev_icmp_ne 223 dL_isAs_206 (by decide) (fun c16 => ?_) (fun c16 => ?_)
          · replace hQ := hQ.2 c16
            refine ev_iconst (0) dL_isAs_223 rfl ?_
            exact ev_ireturn .boolean dL_isAs_224 rfl rfl hQ
          · replace hQ := hQ.1 c16
            refine ev_aload_n (ev_o 9 b0) dL_isAs_209 rfl rfl ?_
            refine ev_iload_n (u2) dL_isAs_210 rfl ?_
            refine ev_cV mv_X9_letterState 3 1 9 [ev_i u2] [] dL_isAs_211 kw_1231 rfl (by decide) rfl (by decide) (by omega) (Nat.le_of_ble_eq_true rfl) hQ ?_ rfl
            rintro o S7 ⟨v7_, rfl, hQ⟩
            show ev_E g m_L_isAs 7 B 214 [some (ev_o 9 b0), some (ev_o 11 b1), some (ev_i u2), none] [ev_i v7_] S7 Q
            refine ev_aload_n (ev_o 11 b1) dL_isAs_214 rfl rfl ?_
            refine gn_11_20 dL_isAs_215 (List.mem_of_getElem? (i := 39) rfl) ?_
            refine ev_iload_n (u2) dL_isAs_218 rfl ?_
            refine ev_iaload dL_isAs_219 h1 ?_
            refine ev_icmp_eq 225 dL_isAs_220 (by decide) (fun c17 => ?_) (fun c17 => ?_)
            · replace hQ := hQ.1 c17
              refine ev_iinc u2 (1) dL_isAs_225 rfl (by decide) (ev_hw rfl) ?_
              show ev_E g m_L_isAs 7 B 228 [some (ev_o 9 b0), some (ev_o 11 b1), some (ev_i (u2 + 1)), none] [] S7 Q
              refine ev_goto 159 dL_isAs_228 (by decide) ?_
              exact hQ
            · replace hQ := hQ.2 c17
              refine ev_iconst (0) dL_isAs_223 rfl ?_
              exact ev_ireturn .boolean dL_isAs_224 rfl rfl hQ
        · rw [if_neg c15]
          replace hQ := hQ.2 c15
          refine ev_aload_n (ev_o 11 b1) dL_isAs_200 rfl rfl ?_
          refine gn_11_25 dL_isAs_201 (List.mem_of_getElem? (i := 40) rfl) ?_
          refine ev_iload_n (u2) dL_isAs_204 rfl ?_
          refine ev_baload (n := 81) (by decide) dL_isAs_205 h1 ?_
          refine ev_icmp_ne 223 dL_isAs_206 (by decide) (fun c18 => ?_) (fun c18 => ?_)
          · replace hQ := hQ.2 c18
            refine ev_iconst (0) dL_isAs_223 rfl ?_
            exact ev_ireturn .boolean dL_isAs_224 rfl rfl hQ
          · replace hQ := hQ.1 c18
            refine ev_aload_n (ev_o 9 b0) dL_isAs_209 rfl rfl ?_
            refine ev_iload_n (u2) dL_isAs_210 rfl ?_
            refine ev_cV mv_X9_letterState 3 1 9 [ev_i u2] [] dL_isAs_211 kw_1231 rfl (by decide) rfl (by decide) (by omega) (Nat.le_of_ble_eq_true rfl) hQ ?_ rfl
            rintro o S8 ⟨v8_, rfl, hQ⟩
            show ev_E g m_L_isAs 7 B 214 [some (ev_o 9 b0), some (ev_o 11 b1), some (ev_i u2), none] [ev_i v8_] S8 Q
            refine ev_aload_n (ev_o 11 b1) dL_isAs_214 rfl rfl ?_
            refine gn_11_20 dL_isAs_215 (List.mem_of_getElem? (i := 39) rfl) ?_
            refine ev_iload_n (u2) dL_isAs_218 rfl ?_
            refine ev_iaload dL_isAs_219 h1 ?_
            refine ev_icmp_eq 225 dL_isAs_220 (by decide) (fun c19 => ?_) (fun c19 => ?_)
            · replace hQ := hQ.1 c19
              refine ev_iinc u2 (1) dL_isAs_225 rfl (by decide) (ev_hw rfl) ?_
              show ev_E g m_L_isAs 7 B 228 [some (ev_o 9 b0), some (ev_o 11 b1), some (ev_i (u2 + 1)), none] [] S8 Q
              refine ev_goto 159 dL_isAs_228 (by decide) ?_
              exact hQ
            · replace hQ := hQ.2 c19
              refine ev_iconst (0) dL_isAs_223 rfl ?_
              exact ev_ireturn .boolean dL_isAs_224 rfl rfl hQ
set_option maxHeartbeats 4000000 in
set_option maxRecDepth 100000 in
theorem sg_L_isAs_32 {g : ev_G} {S : ev_S} {Q : ev_O → ev_S → Prop} {B : Nat} (b0 : Nat) (b1 : Nat) (u2 : Int32) (u3 : Int32) (hQ : (12 ≤ u3 → (
    ev_Cv g m_X9_travelDays 4 1 [ev_o 9 b0, ev_i u2] S (fun o S1 => ∃ v1_ : Int32, o = .inl (some (ev_i v1_)) ∧ (
      (vp_in ((12 * u2) + (ev_rem ((S1.1 b1 2) / 30) 12)) 48) ∧ (
        ((S1.1 (b1 + 18) ((12 * u2) + (ev_rem ((S1.1 b1 2) / 30) 12)).toNatClampNeg) = 9 → (
          (v1_ = (-1) → (
            ev_E g m_L_isAs 7 B 104 [some (ev_o 9 b0), some (ev_o 11 b1), some (ev_i u2), some (ev_i 0)] [] S1 Q)) ∧
          (¬ (v1_ = (-1)) → (
            Q (.inl (some (ev_i 0))) S1)))) ∧
        (¬ ((S1.1 (b1 + 18) ((12 * u2) + (ev_rem ((S1.1 b1 2) / 30) 12)).toNatClampNeg) = 9) → (
          (vp_in u2 4) ∧ (
            (v1_ = ((S1.1 (b1 + 16) u2.toNatClampNeg) + (S1.1 (b1 + 18) ((12 * u2) + (ev_rem ((S1.1 b1 2) / 30) 12)).toNatClampNeg)) → (
              ev_E g m_L_isAs 7 B 104 [some (ev_o 9 b0), some (ev_o 11 b1), some (ev_i u2), some (ev_i 0)] [] S1 Q)) ∧
            (¬ (v1_ = ((S1.1 (b1 + 16) u2.toNatClampNeg) + (S1.1 (b1 + 18) ((12 * u2) + (ev_rem ((S1.1 b1 2) / 30) 12)).toNatClampNeg))) → (
              Q (.inl (some (ev_i 0))) S1)))))))))) ∧
  (¬ (12 ≤ u3) → (
    ev_Cv g m_X9_snowDepth 3 1 [ev_o 9 b0, ev_i u2, ev_i u3] S (fun o S2 => ∃ v2_ : Int32, o = .inl (some (ev_i v2_)) ∧ (
      (vp_in ((12 * u2) + u3) 48) ∧ (
        (v2_ = (S2.1 (b1 + 18) ((12 * u2) + u3).toNatClampNeg) → (
          ev_E g m_L_isAs 7 B 32 [some (ev_o 9 b0), some (ev_o 11 b1), some (ev_i u2), some (ev_i (u3 + 1))] [] S2 Q)) ∧
        (¬ (v2_ = (S2.1 (b1 + 18) ((12 * u2) + u3).toNatClampNeg)) → (
          Q (.inl (some (ev_i 0))) S2)))))))) : ev_E g m_L_isAs 7 (B + 1) 32 [some (ev_o 9 b0), some (ev_o 11 b1), some (ev_i u2), some (ev_i u3)] [] S Q := by
  refine ev_iload_n (u3) dL_isAs_32 rfl ?_
  refine ev_bipush (12) dL_isAs_33 (by decide) ?_
  refine ev_icmp_ge 66 dL_isAs_35 (by decide) (fun c1 => ?_) (fun c1 => ?_)
  · replace hQ := hQ.1 c1
    refine ev_aload_n (ev_o 9 b0) dL_isAs_66 rfl rfl ?_
    refine ev_iload_n (u2) dL_isAs_67 rfl ?_
    refine ev_cV mv_X9_travelDays 4 1 9 [ev_i u2] [] dL_isAs_68 kw_1166 rfl (by decide) rfl (by decide) (by omega) (Nat.le_of_ble_eq_true rfl) hQ ?_ rfl
    rintro o S1 ⟨v1_, rfl, hQ⟩
    show ev_E g m_L_isAs 7 B 71 [some (ev_o 9 b0), some (ev_o 11 b1), some (ev_i u2), some (ev_i u3)] [ev_i v1_] S1 Q
    refine ev_aload_n (ev_o 11 b1) dL_isAs_71 rfl rfl ?_
    refine ev_iload_n (u2) dL_isAs_72 rfl ?_
    obtain ⟨h1, hQ⟩ := hQ
    refine ev_fV mv_X11_depth 2 11 [ev_i u2] [ev_i v1_] dL_isAs_73 kw_1181 rfl (by decide) rfl (by decide) (Nat.le_of_ble_eq_true rfl) (sp_X11_depth b1 u2 h1) ?_ rfl
    refine ev_bipush (9) dL_isAs_76 (by decide) ?_
    refine ev_icmp_ne 85 dL_isAs_78 (by decide) (fun c2 => ?_) (fun c2 => ?_)
    · replace hQ := hQ.2 c2
      refine ev_aload_n (ev_o 11 b1) dL_isAs_85 rfl rfl ?_
      refine gn_11_12 dL_isAs_86 (List.mem_of_getElem? (i := 32) rfl) ?_
      refine ev_iload_n (u2) dL_isAs_89 rfl ?_
      obtain ⟨h2, hQ⟩ := hQ
      refine ev_iaload dL_isAs_90 h2 ?_
      refine ev_aload_n (ev_o 11 b1) dL_isAs_91 rfl rfl ?_
      refine ev_iload_n (u2) dL_isAs_92 rfl ?_
      refine ev_fV mv_X11_depth 2 11 [ev_i u2] [ev_i (S1.1 (b1 + 16) u2.toNatClampNeg), ev_i v1_] dL_isAs_93 kw_1181 rfl (by decide) rfl (by decide) (Nat.le_of_ble_eq_true rfl) (sp_X11_depth b1 u2 h1) ?_ rfl
      refine ev_iadd dL_isAs_96 ?_
      refine ev_icmp_eq 102 dL_isAs_97 (by decide) (fun c3 => ?_) (fun c3 => ?_)
      · replace hQ := hQ.1 c3
        refine ev_iconst (0) dL_isAs_102 rfl ?_
        refine ev_istore_n dL_isAs_103 (Nat.le_of_ble_eq_true rfl) (ev_hw rfl) ?_
        show ev_E g m_L_isAs 7 B 104 [some (ev_o 9 b0), some (ev_o 11 b1), some (ev_i u2), some (ev_i 0)] [] S1 Q
        exact hQ
      · replace hQ := hQ.2 c3
        refine ev_iconst (0) dL_isAs_100 rfl ?_
        exact ev_ireturn .boolean dL_isAs_101 rfl rfl hQ
    · replace hQ := hQ.1 c2
      refine ev_iconst (-1) dL_isAs_81 rfl ?_
      refine ev_goto 97 dL_isAs_82 (by decide) ?_
      refine ev_icmp_eq 102 dL_isAs_97 (by decide) (fun c4 => ?_) (fun c4 => ?_)
      · replace hQ := hQ.1 c4
        refine ev_iconst (0) dL_isAs_102 rfl ?_
        refine ev_istore_n dL_isAs_103 (Nat.le_of_ble_eq_true rfl) (ev_hw rfl) ?_
        show ev_E g m_L_isAs 7 B 104 [some (ev_o 9 b0), some (ev_o 11 b1), some (ev_i u2), some (ev_i 0)] [] S1 Q
        exact hQ
      · replace hQ := hQ.2 c4
        refine ev_iconst (0) dL_isAs_100 rfl ?_
        exact ev_ireturn .boolean dL_isAs_101 rfl rfl hQ
  · replace hQ := hQ.2 c1
    refine ev_aload_n (ev_o 9 b0) dL_isAs_38 rfl rfl ?_
    refine ev_iload_n (u2) dL_isAs_39 rfl ?_
    refine ev_iload_n (u3) dL_isAs_40 rfl ?_
    refine ev_cV mv_X9_snowDepth 3 1 9 [ev_i u2, ev_i u3] [] dL_isAs_41 kw_1154 rfl (by decide) rfl (by decide) (by omega) (Nat.le_of_ble_eq_true rfl) hQ ?_ rfl
    rintro o S2 ⟨v2_, rfl, hQ⟩
    show ev_E g m_L_isAs 7 B 44 [some (ev_o 9 b0), some (ev_o 11 b1), some (ev_i u2), some (ev_i u3)] [ev_i v2_] S2 Q
    refine ev_aload_n (ev_o 11 b1) dL_isAs_44 rfl rfl ?_
    refine gn_11_14 dL_isAs_45 (List.mem_of_getElem? (i := 34) rfl) ?_
    refine ev_bipush (12) dL_isAs_48 (by decide) ?_
    refine ev_iload_n (u2) dL_isAs_50 rfl ?_
    refine ev_imul dL_isAs_51 ?_
    refine ev_iload_n (u3) dL_isAs_52 rfl ?_
    refine ev_iadd dL_isAs_53 ?_
    obtain ⟨h3, hQ⟩ := hQ
    refine ev_iaload dL_isAs_54 h3 ?_
    refine ev_icmp_eq 60 dL_isAs_55 (by decide) (fun c5 => ?_) (fun c5 => ?_)
    · replace hQ := hQ.1 c5
      refine ev_iinc u3 (1) dL_isAs_60 rfl (by decide) (ev_hw rfl) ?_
      show ev_E g m_L_isAs 7 B 63 [some (ev_o 9 b0), some (ev_o 11 b1), some (ev_i u2), some (ev_i (u3 + 1))] [] S2 Q
      refine ev_goto 32 dL_isAs_63 (by decide) ?_
      exact hQ
    · replace hQ := hQ.2 c5
      refine ev_iconst (0) dL_isAs_58 rfl ?_
      exact ev_ireturn .boolean dL_isAs_59 rfl rfl hQ
set_option maxHeartbeats 4000000 in
set_option maxRecDepth 100000 in
theorem sg_L_isAs_325 {g : ev_G} {S : ev_S} {Q : ev_O → ev_S → Prop} {B : Nat} (b0 : Nat) (b1 : Nat) (u2 : Int32) (hQ : (u2 = 0 → (
    Q (.inl (some (ev_i 0))) S)) ∧
  (¬ (u2 = 0) → (
    ev_Cv g m_X9_contradictions 5 0 [ev_o 9 b0] S (fun o S1 => ∃ v1_ : Int32, o = .inl (some (ev_i v1_)) ∧ (
      (v1_ = 0 → (
        ev_Cv g m_X9_meanTravel 2 0 [ev_o 9 b0] S1 (fun o S2 => ∃ v2_ : UInt32, o = .inl (some (ev_f v2_)) ∧ (
          ((S2.1 b1 8) = 0 → (
            ((f_Jxf58ca_floatToIntBits_5c35a v2_) = (f_Jxf58ca_floatToIntBits_5c35a 0) → (
              Q (.inl (some (ev_i 1))) S2)) ∧
            (¬ ((f_Jxf58ca_floatToIntBits_5c35a v2_) = (f_Jxf58ca_floatToIntBits_5c35a 0)) → (
              Q (.inl (some (ev_i 0))) S2)))) ∧
          (¬ ((S2.1 b1 8) = 0) → (
            (vf_n32 (FP.fdiv (FP.i2f (S2.1 b1 7)) (FP.i2f (S2.1 b1 8)))) ∧ (
              ((f_Jxf58ca_floatToIntBits_5c35a v2_) = (f_Jxf58ca_floatToIntBits_5c35a (FP.fdiv (FP.i2f (S2.1 b1 7)) (FP.i2f (S2.1 b1 8)))) → (
                Q (.inl (some (ev_i 1))) S2)) ∧
              (¬ ((f_Jxf58ca_floatToIntBits_5c35a v2_) = (f_Jxf58ca_floatToIntBits_5c35a (FP.fdiv (FP.i2f (S2.1 b1 7)) (FP.i2f (S2.1 b1 8))))) → (
                Q (.inl (some (ev_i 0))) S2))))))))) ∧
      (¬ (v1_ = 0) → (
        Q (.inl (some (ev_i 0))) S1))))))) : ev_E g m_L_isAs 7 B 325 [some (ev_o 9 b0), some (ev_o 11 b1), some (ev_i u2), none] [] S Q := by
  refine ev_iload_n (u2) dL_isAs_325 rfl ?_
  refine ev_if_eq 375 dL_isAs_326 (by decide) (fun c1 => ?_) (fun c1 => ?_)
  · replace hQ := hQ.1 c1
    refine ev_iconst (0) dL_isAs_375 rfl ?_
    exact ev_ireturn .boolean dL_isAs_376 rfl rfl hQ
  · replace hQ := hQ.2 c1
    refine ev_aload_n (ev_o 9 b0) dL_isAs_329 rfl rfl ?_
    refine ev_cV mv_X9_contradictions 5 0 9 [] [] dL_isAs_330 kw_1291 rfl (by decide) rfl (by decide) (by omega) (Nat.le_of_ble_eq_true rfl) hQ ?_ rfl
    rintro o S1 ⟨v1_, rfl, hQ⟩
    show ev_E g m_L_isAs 7 B 333 [some (ev_o 9 b0), some (ev_o 11 b1), some (ev_i u2), none] [ev_i v1_] S1 Q
    refine ev_if_ne 375 dL_isAs_333 (by decide) (fun c2 => ?_) (fun c2 => ?_)
    · replace hQ := hQ.2 c2
      refine ev_iconst (0) dL_isAs_375 rfl ?_
      exact ev_ireturn .boolean dL_isAs_376 rfl rfl hQ
    · replace hQ := hQ.1 c2
      refine ev_aload_n (ev_o 9 b0) dL_isAs_336 rfl rfl ?_
      refine ev_cV mv_X9_meanTravel 2 0 9 [] [] dL_isAs_337 kw_1322 rfl (by decide) rfl (by decide) (by omega) (Nat.le_of_ble_eq_true rfl) hQ ?_ rfl
      rintro o S2 ⟨v2_, rfl, hQ⟩
      show ev_E g m_L_isAs 7 B 340 [some (ev_o 9 b0), some (ev_o 11 b1), some (ev_i u2), none] [ev_f v2_] S2 Q
      refine ev_fS ms_Jxf58ca_floatToIntBits_5c35a 2 [ev_f v2_] [] dL_isAs_340 kw_1334 rfl (by decide) (Nat.le_of_ble_eq_true rfl) (sp_Jxf58ca_floatToIntBits_5c35a v2_) ?_ rfl
      refine ev_aload_n (ev_o 11 b1) dL_isAs_343 rfl rfl ?_
      refine gn_11_8 dL_isAs_344 (List.mem_of_getElem? (i := 28) rfl) ?_
      refine ev_if_ne 354 dL_isAs_347 (by decide) (fun c3 => ?_) (fun c3 => ?_)
      · replace hQ := hQ.2 c3
        refine ev_aload_n (ev_o 11 b1) dL_isAs_354 rfl rfl ?_
        refine gn_11_7 dL_isAs_355 (List.mem_of_getElem? (i := 27) rfl) ?_
        refine ev_i2f dL_isAs_358 ?_
        refine ev_aload_n (ev_o 11 b1) dL_isAs_359 rfl rfl ?_
        refine gn_11_8 dL_isAs_360 (List.mem_of_getElem? (i := 28) rfl) ?_
        refine ev_i2f dL_isAs_363 ?_
        obtain ⟨h1, hQ⟩ := hQ
        refine ev_fdiv dL_isAs_364 h1 ?_
        refine ev_fS ms_Jxf58ca_floatToIntBits_5c35a 2 [ev_f (FP.fdiv (FP.i2f (S2.1 b1 7)) (FP.i2f (S2.1 b1 8)))] [ev_i (f_Jxf58ca_floatToIntBits_5c35a v2_)] dL_isAs_365 kw_1334 rfl (by decide) (Nat.le_of_ble_eq_true rfl) (sp_Jxf58ca_floatToIntBits_5c35a (FP.fdiv (FP.i2f (S2.1 b1 7)) (FP.i2f (S2.1 b1 8)))) ?_ rfl
        refine ev_icmp_ne 375 dL_isAs_368 (by decide) (fun c4 => ?_) (fun c4 => ?_)
        · replace hQ := hQ.2 c4
          refine ev_iconst (0) dL_isAs_375 rfl ?_
          exact ev_ireturn .boolean dL_isAs_376 rfl rfl hQ
        · replace hQ := hQ.1 c4
          refine ev_iconst (1) dL_isAs_371 rfl ?_
          refine ev_goto 376 dL_isAs_372 (by decide) ?_
          exact ev_ireturn .boolean dL_isAs_376 rfl rfl hQ
      · replace hQ := hQ.1 c3
        refine ev_fconst0 dL_isAs_350 ?_
        refine ev_goto 365 dL_isAs_351 (by decide) ?_
        refine ev_fS ms_Jxf58ca_floatToIntBits_5c35a 2 [ev_f 0] [ev_i (f_Jxf58ca_floatToIntBits_5c35a v2_)] dL_isAs_365 kw_1334 rfl (by decide) (Nat.le_of_ble_eq_true rfl) (sp_Jxf58ca_floatToIntBits_5c35a 0) ?_ rfl
        refine ev_icmp_ne 375 dL_isAs_368 (by decide) (fun c5 => ?_) (fun c5 => ?_)
        · replace hQ := hQ.2 c5
          refine ev_iconst (0) dL_isAs_375 rfl ?_
          exact ev_ireturn .boolean dL_isAs_376 rfl rfl hQ
        · replace hQ := hQ.1 c5
          refine ev_iconst (1) dL_isAs_371 rfl ?_
          refine ev_goto 376 dL_isAs_372 (by decide) ?_
          exact ev_ireturn .boolean dL_isAs_376 rfl rfl hQ
set_option maxHeartbeats 4000000 in
set_option maxRecDepth 100000 in
theorem sg_L_isAs_104 {g : ev_G} {S : ev_S} {Q : ev_O → ev_S → Prop} {B : Nat} (b0 : Nat) (b1 : Nat) (u2 : Int32) (u3 : Int32) (hQ : (2 ≤ u3 → (
    ev_E g m_L_isAs 7 (B + 2) 22 [some (ev_o 9 b0), some (ev_o 11 b1), some (ev_i (u2 + 1)), none] [] S Q)) ∧
  (¬ (2 ≤ u3) → (
    ev_Cv g m_X9_mules 3 1 [ev_o 9 b0, ev_i u2, ev_i u3] S (fun o S1 => ∃ v1_ : Int32, o = .inl (some (ev_i v1_)) ∧ (
      (vp_in ((2 * u2) + u3) 8) ∧ (
        (v1_ = (S1.1 (b1 + 17) ((2 * u2) + u3).toNatClampNeg) → (
          ev_Cv g m_X9_queueLength 3 1 [ev_o 9 b0, ev_i u2, ev_i u3] S1 (fun o S2 => ∃ v2_ : Int32, o = .inl (some (ev_i v2_)) ∧ (
            ev_Cv g m_X11_queue 1 0 [ev_o 11 b1, ev_i u2, ev_i u3] S2 (fun o S3 => ∃ v3_ : Int32, o = .inl (some (ev_i v3_)) ∧ (
              (v2_ = v3_ → (
                ev_E g m_L_isAs 7 B 104 [some (ev_o 9 b0), some (ev_o 11 b1), some (ev_i u2), some (ev_i (u3 + 1))] [] S3 Q)) ∧
              (¬ (v2_ = v3_) → (
                Q (.inl (some (ev_i 0))) S3)))))))) ∧
        (¬ (v1_ = (S1.1 (b1 + 17) ((2 * u2) + u3).toNatClampNeg)) → (
          Q (.inl (some (ev_i 0))) S1)))))))) : ev_E g m_L_isAs 7 (B + 2) 104 [some (ev_o 9 b0), some (ev_o 11 b1), some (ev_i u2), some (ev_i u3)] [] S Q := by
  refine ev_iload_n (u3) dL_isAs_104 rfl ?_
  refine ev_iconst (2) dL_isAs_105 rfl ?_
  refine ev_icmp_ge 151 dL_isAs_106 (by decide) (fun c1 => ?_) (fun c1 => ?_)
  · replace hQ := hQ.1 c1
    refine ev_iinc u2 (1) dL_isAs_151 rfl (by decide) (ev_hw rfl) ?_
    show ev_E g m_L_isAs 7 (B + 2) 154 [some (ev_o 9 b0), some (ev_o 11 b1), some (ev_i (u2 + 1)), some (ev_i u3)] [] S Q
    refine ev_goto 22 dL_isAs_154 (by decide) ?_
    refine ev_fgm [true, true, true, false] ?_
    exact hQ
  · replace hQ := hQ.2 c1
    refine ev_aload_n (ev_o 9 b0) dL_isAs_109 rfl rfl ?_
    refine ev_iload_n (u2) dL_isAs_110 rfl ?_
    refine ev_iload_n (u3) dL_isAs_111 rfl ?_
    refine ev_cV mv_X9_mules 3 1 9 [ev_i u2, ev_i u3] [] dL_isAs_112 kw_1189 rfl (by decide) rfl (by decide) (by omega) (Nat.le_of_ble_eq_true rfl) hQ ?_ rfl
    rintro o S1 ⟨v1_, rfl, hQ⟩
    show ev_E g m_L_isAs 7 (B + 1) 115 [some (ev_o 9 b0), some (ev_o 11 b1), some (ev_i u2), some (ev_i u3)] [ev_i v1_] S1 Q
    refine ev_aload_n (ev_o 11 b1) dL_isAs_115 rfl rfl ?_
    refine gn_11_13 dL_isAs_116 (List.mem_of_getElem? (i := 33) rfl) ?_
    refine ev_iconst (2) dL_isAs_119 rfl ?_
    refine ev_iload_n (u2) dL_isAs_120 rfl ?_
    refine ev_imul dL_isAs_121 ?_
    refine ev_iload_n (u3) dL_isAs_122 rfl ?_
    refine ev_iadd dL_isAs_123 ?_
    obtain ⟨h1, hQ⟩ := hQ
    refine ev_iaload dL_isAs_124 h1 ?_
    refine ev_icmp_ne 143 dL_isAs_125 (by decide) (fun c2 => ?_) (fun c2 => ?_)
    · replace hQ := hQ.2 c2
      refine ev_iconst (0) dL_isAs_143 rfl ?_
      exact ev_ireturn .boolean dL_isAs_144 rfl rfl hQ
    · replace hQ := hQ.1 c2
      refine ev_aload_n (ev_o 9 b0) dL_isAs_128 rfl rfl ?_
      refine ev_iload_n (u2) dL_isAs_129 rfl ?_
      refine ev_iload_n (u3) dL_isAs_130 rfl ?_
      refine ev_cV mv_X9_queueLength 3 1 9 [ev_i u2, ev_i u3] [] dL_isAs_131 kw_1197 rfl (by decide) rfl (by decide) (by omega) (Nat.le_of_ble_eq_true rfl) hQ ?_ rfl
      rintro o S2 ⟨v2_, rfl, hQ⟩
      show ev_E g m_L_isAs 7 B 134 [some (ev_o 9 b0), some (ev_o 11 b1), some (ev_i u2), some (ev_i u3)] [ev_i v2_] S2 Q
      refine ev_aload_n (ev_o 11 b1) dL_isAs_134 rfl rfl ?_
      refine ev_iload_n (u2) dL_isAs_135 rfl ?_
      refine ev_iload_n (u3) dL_isAs_136 rfl ?_
      refine ev_cV mv_X11_queue 1 0 11 [ev_i u2, ev_i u3] [ev_i v2_] dL_isAs_137 kw_1205 rfl (by decide) rfl (by decide) (by omega) (Nat.le_of_ble_eq_true rfl) hQ ?_ rfl
      rintro o S3 ⟨v3_, rfl, hQ⟩
      show ev_E g m_L_isAs 7 B 140 [some (ev_o 9 b0), some (ev_o 11 b1), some (ev_i u2), some (ev_i u3)] [ev_i v3_, ev_i v2_] S3 Q
      refine ev_icmp_eq 145 dL_isAs_140 (by decide) (fun c3 => ?_) (fun c3 => ?_)
      · replace hQ := hQ.1 c3
        refine ev_iinc u3 (1) dL_isAs_145 rfl (by decide) (ev_hw rfl) ?_
        show ev_E g m_L_isAs 7 B 148 [some (ev_o 9 b0), some (ev_o 11 b1), some (ev_i u2), some (ev_i (u3 + 1))] [] S3 Q
        refine ev_goto 104 dL_isAs_148 (by decide) ?_
        exact hQ
      · replace hQ := hQ.2 c3
        refine ev_iconst (0) dL_isAs_143 rfl ?_
        exact ev_ireturn .boolean dL_isAs_144 rfl rfl hQ
set_option maxHeartbeats 4000000 in
set_option maxRecDepth 100000 in
theorem sg_L_areMoves_0 {g : ev_G} {S : ev_S} {Q : ev_O → ev_S → Prop} {B : Nat} (b0 : Nat) (b1 : Nat) (x2 : Int32) (hQ : ∀ q1_, ev_lw g ((3, q1_) :: S.2.1) → ∀ S1 : ev_S, S1 = ev_nt S 3 q1_ (fun _ _ => 0) → (
    ev_E g m_L_areMoves 6 B 7 [some (ev_o 9 b0), some (ev_o 11 b1), some (ev_i x2), some (ev_y 2 q1_), some (ev_i 0), none, none] [] S1 Q)) : ev_Cv g m_L_areMoves 6 (B + 1) [ev_o 9 b0, ev_o 11 b1, ev_i x2] S Q := by
  refine ev_enter (by decide) rfl rfl (Nat.le_of_ble_eq_true rfl) ?_
  show ev_E g m_L_areMoves 6 (B + 1) 0 [some (ev_o 9 b0), some (ev_o 11 b1), some (ev_i x2), none, none, none, none] [] S Q
  refine ev_iconst (2) dL_areMoves_0 rfl ?_
  refine ev_newI2 dL_areMoves_1 kw_91 rfl (by omega) (fun q1_ w1_ => ?_)
  replace hQ := hQ q1_ w1_
  refine ev_sub hQ (fun S1 hS1 hQ => ?_)
  refine ev_E.goal (pc' := 3) (L' := [some (ev_o 9 b0), some (ev_o 11 b1), some (ev_i x2), none, none, none, none]) (K' := [ev_y 2 q1_]) (S' := S1) ?_ rfl rfl rfl hS1
  refine ev_astore_n dL_areMoves_3 rfl (Nat.le_of_ble_eq_true rfl) (ev_hw rfl) ?_
  show ev_E g m_L_areMoves 6 B 4 [some (ev_o 9 b0), some (ev_o 11 b1), some (ev_i x2), some (ev_y 2 q1_), none, none, none] [] S1 Q
  refine ev_iconst (0) dL_areMoves_4 rfl ?_
  refine ev_istore dL_areMoves_5 (Nat.le_of_ble_eq_true rfl) (ev_hw rfl) ?_
  show ev_E g m_L_areMoves 6 B 7 [some (ev_o 9 b0), some (ev_o 11 b1), some (ev_i x2), some (ev_y 2 q1_), some (ev_i 0), none, none] [] S1 Q
  exact hQ
set_option maxHeartbeats 4000000 in
set_option maxRecDepth 100000 in
theorem sg_L_areMoves_7 {g : ev_G} {S : ev_S} {Q : ev_O → ev_S → Prop} {B : Nat} (b0 : Nat) (b1 : Nat) (u2 : Int32) (w3 : Nat) (u4 : Int32) (hQ : (((S.1 b1 0) * (S.1 b1 0)) ≤ u4 → (
    ev_Cv g m_X9_mobility 5 1 [ev_o 9 b0, ev_i u2, ev_i 0] S (fun o S1 => ∃ v1_ : Int32, o = .inl (some (ev_i v1_)) ∧ (
      (v1_ = (S1.1 w3 0) → (
        ev_Cv g m_X9_mobility 5 1 [ev_o 9 b0, ev_i u2, ev_i 1] S1 (fun o S2 => ∃ v2_ : Int32, o = .inl (some (ev_i v2_)) ∧ (
          (v2_ = (S2.1 w3 1) → (
            Q (.inl (some (ev_i 1))) S2)) ∧
          (¬ (v2_ = (S2.1 w3 1)) → (
            Q (.inl (some (ev_i 0))) S2)))))) ∧
      (¬ (v1_ = (S1.1 w3 0)) → (
        Q (.inl (some (ev_i 0))) S1)))))) ∧
  (¬ (((S.1 b1 0) * (S.1 b1 0)) ≤ u4) → (
    ev_E g m_L_areMoves 6 (B + 2) 24 [some (ev_o 9 b0), some (ev_o 11 b1), some (ev_i u2), some (ev_y 2 w3), some (ev_i u4), some (ev_i 0), none] [] S Q))) : ev_E g m_L_areMoves 6 (B + 2) 7 [some (ev_o 9 b0), some (ev_o 11 b1), some (ev_i u2), some (ev_y 2 w3), some (ev_i u4), none, none] [] S Q := by
  refine ev_iload (u4) dL_areMoves_7 rfl ?_
  refine ev_aload_n (ev_o 11 b1) dL_areMoves_9 rfl rfl ?_
  refine gn_11_0 dL_areMoves_10 (List.mem_of_getElem? (i := 21) rfl) ?_
  refine ev_aload_n (ev_o 11 b1) dL_areMoves_13 rfl rfl ?_
  refine gn_11_0 dL_areMoves_14 (List.mem_of_getElem? (i := 21) rfl) ?_
  refine ev_imul dL_areMoves_17 ?_
  refine ev_icmp_ge 108 dL_areMoves_18 (by decide) (fun c1 => ?_) (fun c1 => ?_)
  · replace hQ := hQ.1 c1
    refine ev_aload_n (ev_o 9 b0) dL_areMoves_108 rfl rfl ?_
    refine ev_iload_n (u2) dL_areMoves_109 rfl ?_
    refine ev_iconst (0) dL_areMoves_110 rfl ?_
    refine ev_cV mv_X9_mobility 5 1 9 [ev_i u2, ev_i 0] [] dL_areMoves_111 kw_1359 rfl (by decide) rfl (by decide) (by omega) (Nat.le_of_ble_eq_true rfl) hQ ?_ rfl
    rintro o S1 ⟨v1_, rfl, hQ⟩
    show ev_E g m_L_areMoves 6 (B + 1) 114 [some (ev_o 9 b0), some (ev_o 11 b1), some (ev_i u2), some (ev_y 2 w3), some (ev_i u4), none, none] [ev_i v1_] S1 Q
    refine ev_aload_n (ev_y 2 w3) dL_areMoves_114 rfl rfl ?_
    refine ev_iconst (0) dL_areMoves_115 rfl ?_
    refine ev_iaload dL_areMoves_116 (j_vin (by decide)) ?_
    refine ev_icmp_ne 136 dL_areMoves_117 (by decide) (fun c2 => ?_) (fun c2 => ?_)
    · replace hQ := hQ.2 c2
      refine ev_iconst (0) dL_areMoves_136 rfl ?_
      exact ev_ireturn .boolean dL_areMoves_137 rfl rfl hQ
    · replace hQ := hQ.1 c2
      refine ev_aload_n (ev_o 9 b0) dL_areMoves_120 rfl rfl ?_
      refine ev_iload_n (u2) dL_areMoves_121 rfl ?_
      refine ev_iconst (1) dL_areMoves_122 rfl ?_
      refine ev_cV mv_X9_mobility 5 1 9 [ev_i u2, ev_i 1] [] dL_areMoves_123 kw_1359 rfl (by decide) rfl (by decide) (by omega) (Nat.le_of_ble_eq_true rfl) hQ ?_ rfl
      rintro o S2 ⟨v2_, rfl, hQ⟩
      show ev_E g m_L_areMoves 6 B 126 [some (ev_o 9 b0), some (ev_o 11 b1), some (ev_i u2), some (ev_y 2 w3), some (ev_i u4), none, none] [ev_i v2_] S2 Q
      refine ev_aload_n (ev_y 2 w3) dL_areMoves_126 rfl rfl ?_
      refine ev_iconst (1) dL_areMoves_127 rfl ?_
      refine ev_iaload dL_areMoves_128 (j_vin (by decide)) ?_
      refine ev_icmp_ne 136 dL_areMoves_129 (by decide) (fun c3 => ?_) (fun c3 => ?_)
      · replace hQ := hQ.2 c3
        refine ev_iconst (0) dL_areMoves_136 rfl ?_
        exact ev_ireturn .boolean dL_areMoves_137 rfl rfl hQ
      · replace hQ := hQ.1 c3
        refine ev_iconst (1) dL_areMoves_132 rfl ?_
        refine ev_goto 137 dL_areMoves_133 (by decide) ?_
        exact ev_ireturn .boolean dL_areMoves_137 rfl rfl hQ
  · replace hQ := hQ.2 c1
    refine ev_iconst (0) dL_areMoves_21 rfl ?_
    refine ev_istore dL_areMoves_22 (Nat.le_of_ble_eq_true rfl) (ev_hw rfl) ?_
    show ev_E g m_L_areMoves 6 (B + 2) 24 [some (ev_o 9 b0), some (ev_o 11 b1), some (ev_i u2), some (ev_y 2 w3), some (ev_i u4), some (ev_i 0), none] [] S Q
    exact hQ
set_option maxHeartbeats 4000000 in
set_option maxRecDepth 100000 in
theorem sg_L_areMoves_24 {g : ev_G} {S : ev_S} {Q : ev_O → ev_S → Prop} {B : Nat} (b0 : Nat) (b1 : Nat) (u2 : Int32) (w3 : Nat) (u4 : Int32) (u5 : Int32) (hQ : (((S.1 b1 0) * (S.1 b1 0)) ≤ u5 → (
    ev_E g m_L_areMoves 6 (B + 1) 7 [some (ev_o 9 b0), some (ev_o 11 b1), some (ev_i u2), some (ev_y 2 w3), some (ev_i (u4 + 1)), none, none] [] S Q)) ∧
  (¬ (((S.1 b1 0) * (S.1 b1 0)) ≤ u5) → (
    (vp_in u2 2) ∧ (
      ev_Cv g m_X10_canGo 1 0 [ev_o 10 (a_bd (b1 + 1) u2), ev_i (S.1 b1 0), ev_i u4, ev_i u5] S (fun o S1 => ∃ v1_ : Bool, o = .inl (some (ev_i (if v1_ = true then 1 else 0))) ∧ (
        (v1_ = true → (
          ev_Cv g m_X9_canMove 4 1 [ev_o 9 b0, ev_i u2, ev_i u4, ev_i u5] S1 (fun o S2 => ∃ v2_ : Bool, o = .inl (some (ev_i (if v2_ = true then 1 else 0))) ∧ (
            (v2_ = true → (
              (vp_in u4 64) ∧ (
                (vp_in (S2.1 ((a_bd (b1 + 1) u2) + 1) u4.toNatClampNeg) 2) ∧ (
                  ∀ S3 : ev_S, S3 = (ev_up S2 w3 (S2.1 ((a_bd (b1 + 1) u2) + 1) u4.toNatClampNeg).toNatClampNeg ((S2.1 w3 (S2.1 ((a_bd (b1 + 1) u2) + 1) u4.toNatClampNeg).toNatClampNeg) + 1)) → (
                    ev_E g m_L_areMoves 6 B 24 [some (ev_o 9 b0), some (ev_o 11 b1), some (ev_i u2), some (ev_y 2 w3), some (ev_i u4), some (ev_i (u5 + 1)), none] [] S3 Q))))) ∧
            (¬ (v2_ = true) → (
              Q (.inl (some (ev_i 0))) S2)))))) ∧
        (¬ (v1_ = true) → (
          ev_Cv g m_X9_canMove 4 1 [ev_o 9 b0, ev_i u2, ev_i u4, ev_i u5] S1 (fun o S4 => ∃ v3_ : Bool, o = .inl (some (ev_i (if v3_ = true then 1 else 0))) ∧ (
            (v3_ = true → (
              Q (.inl (some (ev_i 0))) S4)) ∧
            (¬ (v3_ = true) → (
              ev_E g m_L_areMoves 6 B 24 [some (ev_o 9 b0), some (ev_o 11 b1), some (ev_i u2), some (ev_y 2 w3), some (ev_i u4), some (ev_i (u5 + 1)), none] [] S4 Q)))))))))))) : ev_E g m_L_areMoves 6 (B + 1) 24 [some (ev_o 9 b0), some (ev_o 11 b1), some (ev_i u2), some (ev_y 2 w3), some (ev_i u4), some (ev_i u5), none] [] S Q := by
  refine ev_iload (u5) dL_areMoves_24 rfl ?_
  refine ev_aload_n (ev_o 11 b1) dL_areMoves_26 rfl rfl ?_
  refine gn_11_0 dL_areMoves_27 (List.mem_of_getElem? (i := 21) rfl) ?_
  refine ev_aload_n (ev_o 11 b1) dL_areMoves_30 rfl rfl ?_
  refine gn_11_0 dL_areMoves_31 (List.mem_of_getElem? (i := 21) rfl) ?_
  refine ev_imul dL_areMoves_34 ?_
  refine ev_icmp_ge 102 dL_areMoves_35 (by decide) (fun c1 => ?_) (fun c1 => ?_)
  · replace hQ := hQ.1 c1
    refine ev_iinc u4 (1) dL_areMoves_102 rfl (by decide) (ev_hw rfl) ?_
    show ev_E g m_L_areMoves 6 (B + 1) 105 [some (ev_o 9 b0), some (ev_o 11 b1), some (ev_i u2), some (ev_y 2 w3), some (ev_i (u4 + 1)), some (ev_i u5), none] [] S Q
    refine ev_goto 7 dL_areMoves_105 (by decide) ?_
    refine ev_fgm [true, true, true, true, true, false, false] ?_
    exact hQ
  · replace hQ := hQ.2 c1
    refine ev_aload_n (ev_o 11 b1) dL_areMoves_38 rfl rfl ?_
    refine gn_11_11 dL_areMoves_39 (List.mem_of_getElem? (i := 31) rfl) ?_
    refine ev_iload_n (u2) dL_areMoves_42 rfl ?_
    obtain ⟨h1, hQ⟩ := hQ
    refine ev_aalB dL_areMoves_43 h1 ?_
    show ev_E g m_L_areMoves 6 (B + 1) 44 [some (ev_o 9 b0), some (ev_o 11 b1), some (ev_i u2), some (ev_y 2 w3), some (ev_i u4), some (ev_i u5), none] [ev_o 10 (a_bd (b1 + 1) u2)] S Q
    refine ev_aload_n (ev_o 11 b1) dL_areMoves_44 rfl rfl ?_
    refine gn_11_0 dL_areMoves_45 (List.mem_of_getElem? (i := 21) rfl) ?_
    refine ev_iload (u4) dL_areMoves_48 rfl ?_
    refine ev_iload (u5) dL_areMoves_50 rfl ?_
    refine ev_cV mv_X10_canGo 1 0 10 [ev_i (S.1 b1 0), ev_i u4, ev_i u5] [] dL_areMoves_52 kw_1347 rfl (by decide) rfl (by decide) (by omega) (Nat.le_of_ble_eq_true rfl) hQ ?_ rfl
    rintro o S1 ⟨v1_, rfl, hQ⟩
    show ev_E g m_L_areMoves 6 (B + 1) 55 [some (ev_o 9 b0), some (ev_o 11 b1), some (ev_i u2), some (ev_y 2 w3), some (ev_i u4), some (ev_i u5), none] [ev_i (if v1_ = true then 1 else 0)] S1 Q
    by_cases c2 : v1_ = true
    · rw [if_pos c2]
      replace hQ := hQ.1 c2
      refine ev_istore dL_areMoves_55 (Nat.le_of_ble_eq_true rfl) (ev_hw rfl) ?_
      show ev_E g m_L_areMoves 6 (B + 1) 57 [some (ev_o 9 b0), some (ev_o 11 b1), some (ev_i u2), some (ev_y 2 w3), some (ev_i u4), some (ev_i u5), some (ev_i 1)] [] S1 Q
      refine ev_aload_n (ev_o 9 b0) dL_areMoves_57 rfl rfl ?_
      refine ev_iload_n (u2) dL_areMoves_58 rfl ?_
      refine ev_iload (u4) dL_areMoves_59 rfl ?_
      refine ev_iload (u5) dL_areMoves_61 rfl ?_
      refine ev_cV mv_X9_canMove 4 1 9 [ev_i u2, ev_i u4, ev_i u5] [] dL_areMoves_63 kw_1351 rfl (by decide) rfl (by decide) (by omega) (Nat.le_of_ble_eq_true rfl) hQ ?_ rfl
      rintro o S2 ⟨v2_, rfl, hQ⟩
      show ev_E g m_L_areMoves 6 B 66 [some (ev_o 9 b0), some (ev_o 11 b1), some (ev_i u2), some (ev_y 2 w3), some (ev_i u4), some (ev_i u5), some (ev_i 1)] [ev_i (if v2_ = true then 1 else 0)] S2 Q
      by_cases c3 : v2_ = true
      · rw [if_pos c3]
        replace hQ := hQ.1 c3
        refine ev_iload (1) dL_areMoves_66 rfl ?_
        refine ev_icmp_eq 73 dL_areMoves_68 (by decide) (fun _ => ?_) (fun h9 => absurd (by decide : ((1 : Int32) = 1)) h9)
        refine ev_iload (1) dL_areMoves_73 rfl ?_
        refine ev_if_eq 96 dL_areMoves_75 (by decide) (fun h9 => absurd h9 (by decide : ¬ ((1 : Int32) = 0))) (fun _ => ?_)
        refine ev_aload_n (ev_y 2 w3) dL_areMoves_78 rfl rfl ?_
        refine ev_aload_n (ev_o 11 b1) dL_areMoves_79 rfl rfl ?_
        refine gn_11_11 dL_areMoves_80 (List.mem_of_getElem? (i := 31) rfl) ?_
        refine ev_iload_n (u2) dL_areMoves_83 rfl ?_
        refine ev_aalB dL_areMoves_84 h1 ?_
        show ev_E g m_L_areMoves 6 B 85 [some (ev_o 9 b0), some (ev_o 11 b1), some (ev_i u2), some (ev_y 2 w3), some (ev_i u4), some (ev_i u5), some (ev_i 1)] [ev_o 10 (a_bd (b1 + 1) u2), ev_y 2 w3] S2 Q
        refine gn_10_0 dL_areMoves_85 (List.mem_of_getElem? (i := 0) rfl) ?_
        refine ev_iload (u4) dL_areMoves_88 rfl ?_
        obtain ⟨h2, hQ⟩ := hQ
        refine ev_iaload dL_areMoves_90 h2 ?_
        refine ev_dup2 dL_areMoves_91 rfl rfl ?_
        obtain ⟨h3, hQ⟩ := hQ
        refine ev_iaload dL_areMoves_92 h3 ?_
        refine ev_iconst (1) dL_areMoves_93 rfl ?_
        refine ev_iadd dL_areMoves_94 ?_
        refine ev_iastore dL_areMoves_95 h3 ?_
        refine ev_sub hQ (fun S3 hS3 hQ => ?_)
        refine ev_E.goal (pc' := 96) (L' := [some (ev_o 9 b0), some (ev_o 11 b1), some (ev_i u2), some (ev_y 2 w3), some (ev_i u4), some (ev_i u5), some (ev_i 1)]) (K' := []) (S' := S3) ?_ rfl rfl rfl hS3
        refine ev_iinc u5 (1) dL_areMoves_96 rfl (by decide) (ev_hw rfl) ?_
        show ev_E g m_L_areMoves 6 B 99 [some (ev_o 9 b0), some (ev_o 11 b1), some (ev_i u2), some (ev_y 2 w3), some (ev_i u4), some (ev_i (u5 + 1)), some (ev_i 1)] [] S3 Q
        refine ev_goto 24 dL_areMoves_99 (by decide) ?_
        refine ev_fgm [true, true, true, true, true, true, false] ?_
        exact hQ
      · rw [if_neg c3]
        replace hQ := hQ.2 c3
        refine ev_iload (1) dL_areMoves_66 rfl ?_
        refine ev_icmp_eq 73 dL_areMoves_68 (by decide) (fun h9 => absurd h9 (by decide : ¬ ((0 : Int32) = 1))) (fun _ => ?_)
        refine ev_iconst (0) dL_areMoves_71 rfl ?_
        exact ev_ireturn .boolean dL_areMoves_72 rfl rfl hQ
    · rw [if_neg c2]
      replace hQ := hQ.2 c2
      refine ev_istore dL_areMoves_55 (Nat.le_of_ble_eq_true rfl) (ev_hw rfl) ?_
      show ev_E g m_L_areMoves 6 (B + 1) 57 [some (ev_o 9 b0), some (ev_o 11 b1), some (ev_i u2), some (ev_y 2 w3), some (ev_i u4), some (ev_i u5), some (ev_i 0)] [] S1 Q
      refine ev_aload_n (ev_o 9 b0) dL_areMoves_57 rfl rfl ?_
      refine ev_iload_n (u2) dL_areMoves_58 rfl ?_
      refine ev_iload (u4) dL_areMoves_59 rfl ?_
      refine ev_iload (u5) dL_areMoves_61 rfl ?_
      refine ev_cV mv_X9_canMove 4 1 9 [ev_i u2, ev_i u4, ev_i u5] [] dL_areMoves_63 kw_1351 rfl (by decide) rfl (by decide) (by omega) (Nat.le_of_ble_eq_true rfl) hQ ?_ rfl
      rintro o S4 ⟨v3_, rfl, hQ⟩
      show ev_E g m_L_areMoves 6 B 66 [some (ev_o 9 b0), some (ev_o 11 b1), some (ev_i u2), some (ev_y 2 w3), some (ev_i u4), some (ev_i u5), some (ev_i 0)] [ev_i (if v3_ = true then 1 else 0)] S4 Q
      by_cases c4 : v3_ = true
      · rw [if_pos c4]
        replace hQ := hQ.1 c4
        refine ev_iload (0) dL_areMoves_66 rfl ?_
        refine ev_icmp_eq 73 dL_areMoves_68 (by decide) (fun h9 => absurd h9 (by decide : ¬ ((1 : Int32) = 0))) (fun _ => ?_)
        refine ev_iconst (0) dL_areMoves_71 rfl ?_
        exact ev_ireturn .boolean dL_areMoves_72 rfl rfl hQ
      · rw [if_neg c4]
        replace hQ := hQ.2 c4
        refine ev_iload (0) dL_areMoves_66 rfl ?_
        refine ev_icmp_eq 73 dL_areMoves_68 (by decide) (fun _ => ?_) (fun h9 => absurd (by decide : ((0 : Int32) = 0)) h9)
        refine ev_iload (0) dL_areMoves_73 rfl ?_
        refine ev_if_eq 96 dL_areMoves_75 (by decide) (fun _ => ?_) (fun h9 => absurd (by decide : ((0 : Int32) = 0)) h9)
        refine ev_iinc u5 (1) dL_areMoves_96 rfl (by decide) (ev_hw rfl) ?_
        show ev_E g m_L_areMoves 6 B 99 [some (ev_o 9 b0), some (ev_o 11 b1), some (ev_i u2), some (ev_y 2 w3), some (ev_i u4), some (ev_i (u5 + 1)), some (ev_i 0)] [] S4 Q
        refine ev_goto 24 dL_areMoves_99 (by decide) ?_
        refine ev_fgm [true, true, true, true, true, true, false] ?_
        exact hQ
set_option maxHeartbeats 4000000 in
set_option maxRecDepth 100000 in
theorem sg_L_isForetold_0 {g : ev_G} {S : ev_S} {Q : ev_O → ev_S → Prop} {B : Nat} (b0 : Nat) (b1 : Nat) (x2 : Int32) (hQ : ev_Cv g m_X11_copy 2 360 [ev_o 11 b1] S (fun o S1 => ∃ v1_ : Nat, o = .inl (some (ev_o 11 v1_)) ∧ (
    ∀ q1_, ev_lw g ((3, q1_) :: S1.2.1) → ∀ S2 : ev_S, S2 = ev_nt S1 3 q1_ (fun _ _ => 0) → (
      ∀ S3 : ev_S, S3 = (ev_up S2 q1_ 0 (-1)) → (
        ∀ S4 : ev_S, S4 = (ev_up S3 q1_ 1 (-1)) → (
          ev_E g m_L_isForetold 8 B 24 [some (ev_o 9 b0), some (ev_o 11 b1), some (ev_i x2), some (ev_o 11 v1_), some (ev_y 2 q1_), some (ev_i (-1)), some (ev_i 0), none] [] S4 Q)))))) : ev_Cv g m_L_isForetold 8 (B + 361) [ev_o 9 b0, ev_o 11 b1, ev_i x2] S Q := by
  refine ev_enter (by decide) rfl rfl (Nat.le_of_ble_eq_true rfl) ?_
  show ev_E g m_L_isForetold 8 (B + 361) 0 [some (ev_o 9 b0), some (ev_o 11 b1), some (ev_i x2), none, none, none, none, none] [] S Q
  refine ev_aload_n (ev_o 11 b1) dL_isForetold_0 rfl rfl ?_
  refine ev_cV mv_X11_copy 2 360 11 [] [] dL_isForetold_1 kw_926 rfl (by decide) rfl (by decide) (by omega) (Nat.le_of_ble_eq_true rfl) hQ ?_ rfl
  rintro o S1 ⟨v1_, rfl, hQ⟩
  show ev_E g m_L_isForetold 8 (B + 1) 4 [some (ev_o 9 b0), some (ev_o 11 b1), some (ev_i x2), none, none, none, none, none] [ev_o 11 v1_] S1 Q
  refine ev_astore_n dL_isForetold_4 rfl (Nat.le_of_ble_eq_true rfl) (ev_hw rfl) ?_
  show ev_E g m_L_isForetold 8 (B + 1) 5 [some (ev_o 9 b0), some (ev_o 11 b1), some (ev_i x2), some (ev_o 11 v1_), none, none, none, none] [] S1 Q
  refine ev_iconst (2) dL_isForetold_5 rfl ?_
  refine ev_newI2 dL_isForetold_6 kw_91 rfl (by omega) (fun q1_ w1_ => ?_)
  replace hQ := hQ q1_ w1_
  refine ev_sub hQ (fun S2 hS2 hQ => ?_)
  refine ev_E.goal (pc' := 8) (L' := [some (ev_o 9 b0), some (ev_o 11 b1), some (ev_i x2), some (ev_o 11 v1_), none, none, none, none]) (K' := [ev_y 2 q1_]) (S' := S2) ?_ rfl rfl rfl hS2
  refine ev_dup dL_isForetold_8 rfl ?_
  refine ev_iconst (0) dL_isForetold_9 rfl ?_
  refine ev_iconst (-1) dL_isForetold_10 rfl ?_
  refine ev_iastore dL_isForetold_11 (j_vin (by decide)) ?_
  refine ev_sub hQ (fun S3 hS3 hQ => ?_)
  refine ev_E.goal (pc' := 12) (L' := [some (ev_o 9 b0), some (ev_o 11 b1), some (ev_i x2), some (ev_o 11 v1_), none, none, none, none]) (K' := [ev_y 2 q1_]) (S' := S3) ?_ rfl rfl rfl hS3
  refine ev_dup dL_isForetold_12 rfl ?_
  refine ev_iconst (1) dL_isForetold_13 rfl ?_
  refine ev_iconst (-1) dL_isForetold_14 rfl ?_
  refine ev_iastore dL_isForetold_15 (j_vin (by decide)) ?_
  refine ev_sub hQ (fun S4 hS4 hQ => ?_)
  refine ev_E.goal (pc' := 16) (L' := [some (ev_o 9 b0), some (ev_o 11 b1), some (ev_i x2), some (ev_o 11 v1_), none, none, none, none]) (K' := [ev_y 2 q1_]) (S' := S4) ?_ rfl rfl rfl hS4
  refine ev_astore dL_isForetold_16 rfl (Nat.le_of_ble_eq_true rfl) (ev_hw rfl) ?_
  show ev_E g m_L_isForetold 8 B 18 [some (ev_o 9 b0), some (ev_o 11 b1), some (ev_i x2), some (ev_o 11 v1_), some (ev_y 2 q1_), none, none, none] [] S4 Q
  refine ev_iconst (-1) dL_isForetold_18 rfl ?_
  refine ev_istore dL_isForetold_19 (Nat.le_of_ble_eq_true rfl) (ev_hw rfl) ?_
  show ev_E g m_L_isForetold 8 B 21 [some (ev_o 9 b0), some (ev_o 11 b1), some (ev_i x2), some (ev_o 11 v1_), some (ev_y 2 q1_), some (ev_i (-1)), none, none] [] S4 Q
  refine ev_iconst (0) dL_isForetold_21 rfl ?_
  refine ev_istore dL_isForetold_22 (Nat.le_of_ble_eq_true rfl) (ev_hw rfl) ?_
  show ev_E g m_L_isForetold 8 B 24 [some (ev_o 9 b0), some (ev_o 11 b1), some (ev_i x2), some (ev_o 11 v1_), some (ev_y 2 q1_), some (ev_i (-1)), some (ev_i 0), none] [] S4 Q
  exact hQ
set_option maxHeartbeats 4000000 in
set_option maxRecDepth 100000 in
theorem sg_L_isForetold_24 {g : ev_G} {S : ev_S} {Q : ev_O → ev_S → Prop} {B : Nat} (b0 : Nat) (b1 : Nat) (u2 : Int32) (w3 : Nat) (w4 : Nat) (u5 : Int32) (u6 : Int32) (hQ : (400 < u6 → (
    ev_Cv g m_X9_daysUntilTurn 6 1 [ev_o 9 b0, ev_i 0] S (fun o S1 => ∃ v1_ : Int32, o = .inl (some (ev_i v1_)) ∧ (
      (v1_ = (S1.1 w4 0) → (
        ev_Cv g m_X9_daysUntilTurn 6 1 [ev_o 9 b0, ev_i 1] S1 (fun o S2 => ∃ v2_ : Int32, o = .inl (some (ev_i v2_)) ∧ (
          (v2_ = (S2.1 w4 1) → (
            ev_Cv g m_X9_daysUntilEqual 6 0 [ev_o 9 b0] S2 (fun o S3 => ∃ v3_ : Int32, o = .inl (some (ev_i v3_)) ∧ (
              (v3_ = u5 → (
                ((S3.1 b1 4) ≤ u2 → (
                  ev_Cv g m_X9_fastestPass 5 1 [ev_o 9 b0, ev_i 0] S3 (fun o S4 => ∃ v4_ : Int32, o = .inl (some (ev_i v4_)) ∧ (
                    ev_Cv g m_X11_fastest 7 2880 [ev_o 11 b1, ev_i 0] S4 (fun o S5 => ∃ v5_ : Int32, o = .inl (some (ev_i v5_)) ∧ (
                      (v4_ = v5_ → (
                        ev_Cv g m_X9_fastestPass 5 1 [ev_o 9 b0, ev_i 1] S5 (fun o S6 => ∃ v6_ : Int32, o = .inl (some (ev_i v6_)) ∧ (
                          ev_Cv g m_X11_fastest 7 2880 [ev_o 11 b1, ev_i 1] S6 (fun o S7 => ∃ v7_ : Int32, o = .inl (some (ev_i v7_)) ∧ (
                            (v6_ = v7_ → (
                              Q (.inl (some (ev_i 1))) S7)) ∧
                            (¬ (v6_ = v7_) → (
                              Q (.inl (some (ev_i 0))) S7)))))))) ∧
                      (¬ (v4_ = v5_) → (
                        Q (.inl (some (ev_i 0))) S5)))))))) ∧
                (¬ ((S3.1 b1 4) ≤ u2) → (
                  ev_Cv g m_X9_arrivalDay 5 1 [ev_o 9 b0, ev_i u2] S3 (fun o S8 => ∃ v8_ : Int32, o = .inl (some (ev_i v8_)) ∧ (
                    ev_Cv g m_X11_arrival 6 360 [ev_o 11 b1, ev_i u2] S8 (fun o S9 => ∃ v9_ : Int32, o = .inl (some (ev_i v9_)) ∧ (
                      (v8_ = v9_ → (
                        ev_Cv g m_X9_fastestPass 5 1 [ev_o 9 b0, ev_i 0] S9 (fun o S10 => ∃ v10_ : Int32, o = .inl (some (ev_i v10_)) ∧ (
                          ev_Cv g m_X11_fastest 7 2880 [ev_o 11 b1, ev_i 0] S10 (fun o S11 => ∃ v11_ : Int32, o = .inl (some (ev_i v11_)) ∧ (
                            (v10_ = v11_ → (
                              ev_Cv g m_X9_fastestPass 5 1 [ev_o 9 b0, ev_i 1] S11 (fun o S12 => ∃ v12_ : Int32, o = .inl (some (ev_i v12_)) ∧ (
                                ev_Cv g m_X11_fastest 7 2880 [ev_o 11 b1, ev_i 1] S12 (fun o S13 => ∃ v13_ : Int32, o = .inl (some (ev_i v13_)) ∧ (
                                  (v12_ = v13_ → (
                                    Q (.inl (some (ev_i 1))) S13)) ∧
                                  (¬ (v12_ = v13_) → (
                                    Q (.inl (some (ev_i 0))) S13)))))))) ∧
                            (¬ (v10_ = v11_) → (
                              Q (.inl (some (ev_i 0))) S11)))))))) ∧
                      (¬ (v8_ = v9_) → (
                        Q (.inl (some (ev_i 0))) S9)))))))))) ∧
              (¬ (v3_ = u5) → (
                Q (.inl (some (ev_i 0))) S3)))))) ∧
          (¬ (v2_ = (S2.1 w4 1)) → (
            Q (.inl (some (ev_i 0))) S2)))))) ∧
      (¬ (v1_ = (S1.1 w4 0)) → (
        Q (.inl (some (ev_i 0))) S1)))))) ∧
  (¬ (400 < u6) → (
    ev_E g m_L_isForetold 8 (B + 6125) 35 [some (ev_o 9 b0), some (ev_o 11 b1), some (ev_i u2), some (ev_o 11 w3), some (ev_y 2 w4), some (ev_i u5), some (ev_i u6), some (ev_i 0)] [] S Q))) : ev_E g m_L_isForetold 8 (B + 6125) 24 [some (ev_o 9 b0), some (ev_o 11 b1), some (ev_i u2), some (ev_o 11 w3), some (ev_y 2 w4), some (ev_i u5), some (ev_i u6), none] [] S Q := by
  refine ev_iload (u6) dL_isForetold_24 rfl ?_
  refine ev_sipush (400) dL_isForetold_26 (by decide) ?_
  refine ev_icmp_gt 110 dL_isForetold_29 (by decide) (fun c1 => ?_) (fun c1 => ?_)
  · replace hQ := hQ.1 c1
    refine ev_aload_n (ev_o 9 b0) dL_isForetold_110 rfl rfl ?_
    refine ev_iconst (0) dL_isForetold_111 rfl ?_
    refine ev_cV mv_X9_daysUntilTurn 6 1 9 [ev_i 0] [] dL_isForetold_112 kw_1391 rfl (by decide) rfl (by decide) (by omega) (Nat.le_of_ble_eq_true rfl) hQ ?_ rfl
    rintro o S1 ⟨v1_, rfl, hQ⟩
    show ev_E g m_L_isForetold 8 (B + 6124) 115 [some (ev_o 9 b0), some (ev_o 11 b1), some (ev_i u2), some (ev_o 11 w3), some (ev_y 2 w4), some (ev_i u5), some (ev_i u6), none] [ev_i v1_] S1 Q
    refine ev_aload (ev_y 2 w4) dL_isForetold_115 rfl rfl ?_
    refine ev_iconst (0) dL_isForetold_117 rfl ?_
    refine ev_iaload dL_isForetold_118 (j_vin (by decide)) ?_
    refine ev_icmp_ne 143 dL_isForetold_119 (by decide) (fun c2 => ?_) (fun c2 => ?_)
    · replace hQ := hQ.2 c2
      refine ev_iconst (0) dL_isForetold_143 rfl ?_
      exact ev_ireturn .boolean dL_isForetold_144 rfl rfl hQ
    · replace hQ := hQ.1 c2
      refine ev_aload_n (ev_o 9 b0) dL_isForetold_122 rfl rfl ?_
      refine ev_iconst (1) dL_isForetold_123 rfl ?_
      refine ev_cV mv_X9_daysUntilTurn 6 1 9 [ev_i 1] [] dL_isForetold_124 kw_1391 rfl (by decide) rfl (by decide) (by omega) (Nat.le_of_ble_eq_true rfl) hQ ?_ rfl
      rintro o S2 ⟨v2_, rfl, hQ⟩
      show ev_E g m_L_isForetold 8 (B + 6123) 127 [some (ev_o 9 b0), some (ev_o 11 b1), some (ev_i u2), some (ev_o 11 w3), some (ev_y 2 w4), some (ev_i u5), some (ev_i u6), none] [ev_i v2_] S2 Q
      refine ev_aload (ev_y 2 w4) dL_isForetold_127 rfl rfl ?_
      refine ev_iconst (1) dL_isForetold_129 rfl ?_
      refine ev_iaload dL_isForetold_130 (j_vin (by decide)) ?_
      refine ev_icmp_ne 143 dL_isForetold_131 (by decide) (fun c3 => ?_) (fun c3 => ?_)
      · replace hQ := hQ.2 c3
        refine ev_iconst (0) dL_isForetold_143 rfl ?_
        exact ev_ireturn .boolean dL_isForetold_144 rfl rfl hQ
      · replace hQ := hQ.1 c3
        refine ev_aload_n (ev_o 9 b0) dL_isForetold_134 rfl rfl ?_
        refine ev_cV mv_X9_daysUntilEqual 6 0 9 [] [] dL_isForetold_135 kw_1475 rfl (by decide) rfl (by decide) (by omega) (Nat.le_of_ble_eq_true rfl) hQ ?_ rfl
        rintro o S3 ⟨v3_, rfl, hQ⟩
        show ev_E g m_L_isForetold 8 (B + 6123) 138 [some (ev_o 9 b0), some (ev_o 11 b1), some (ev_i u2), some (ev_o 11 w3), some (ev_y 2 w4), some (ev_i u5), some (ev_i u6), none] [ev_i v3_] S3 Q
        refine ev_iload (u5) dL_isForetold_138 rfl ?_
        refine ev_icmp_eq 145 dL_isForetold_140 (by decide) (fun c4 => ?_) (fun c4 => ?_)
        · replace hQ := hQ.1 c4
          refine ev_iload_n (u2) dL_isForetold_145 rfl ?_
          refine ev_aload_n (ev_o 11 b1) dL_isForetold_146 rfl rfl ?_
          refine gn_11_4 dL_isForetold_147 (List.mem_of_getElem? (i := 25) rfl) ?_
          refine ev_icmp_ge 166 dL_isForetold_150 (by decide) (fun c5 => ?_) (fun c5 => ?_)
          · replace hQ := hQ.1 c5
            refine ev_aload_n (ev_o 9 b0) dL_isForetold_166 rfl rfl ?_
            refine ev_iconst (0) dL_isForetold_167 rfl ?_
            refine ev_cV mv_X9_fastestPass 5 1 9 [ev_i 0] [] dL_isForetold_168 kw_1495 rfl (by decide) rfl (by decide) (by omega) (Nat.le_of_ble_eq_true rfl) hQ ?_ rfl
            rintro o S4 ⟨v4_, rfl, hQ⟩
            show ev_E g m_L_isForetold 8 (B + 6122) 171 [some (ev_o 9 b0), some (ev_o 11 b1), some (ev_i u2), some (ev_o 11 w3), some (ev_y 2 w4), some (ev_i u5), some (ev_i u6), none] [ev_i v4_] S4 Q
            refine ev_aload_n (ev_o 11 b1) dL_isForetold_171 rfl rfl ?_
            refine ev_iconst (0) dL_isForetold_172 rfl ?_
            refine ev_cV mv_X11_fastest 7 2880 11 [ev_i 0] [ev_i v4_] dL_isForetold_173 kw_1503 rfl (by decide) rfl (by decide) (by omega) (Nat.le_of_ble_eq_true rfl) hQ ?_ rfl
            rintro o S5 ⟨v5_, rfl, hQ⟩
            show ev_E g m_L_isForetold 8 (B + 3242) 176 [some (ev_o 9 b0), some (ev_o 11 b1), some (ev_i u2), some (ev_o 11 w3), some (ev_y 2 w4), some (ev_i u5), some (ev_i u6), none] [ev_i v5_, ev_i v4_] S5 Q
            refine ev_icmp_ne 196 dL_isForetold_176 (by decide) (fun c6 => ?_) (fun c6 => ?_)
            · replace hQ := hQ.2 c6
              refine ev_iconst (0) dL_isForetold_196 rfl ?_
              exact ev_ireturn .boolean dL_isForetold_197 rfl rfl hQ
            · replace hQ := hQ.1 c6
              refine ev_aload_n (ev_o 9 b0) dL_isForetold_179 rfl rfl ?_
              refine ev_iconst (1) dL_isForetold_180 rfl ?_
              refine ev_cV mv_X9_fastestPass 5 1 9 [ev_i 1] [] dL_isForetold_181 kw_1495 rfl (by decide) rfl (by decide) (by omega) (Nat.le_of_ble_eq_true rfl) hQ ?_ rfl
              rintro o S6 ⟨v6_, rfl, hQ⟩
              show ev_E g m_L_isForetold 8 (B + 3241) 184 [some (ev_o 9 b0), some (ev_o 11 b1), some (ev_i u2), some (ev_o 11 w3), some (ev_y 2 w4), some (ev_i u5), some (ev_i u6), none] [ev_i v6_] S6 Q
              refine ev_aload_n (ev_o 11 b1) dL_isForetold_184 rfl rfl ?_
              refine ev_iconst (1) dL_isForetold_185 rfl ?_
              refine ev_cV mv_X11_fastest 7 2880 11 [ev_i 1] [ev_i v6_] dL_isForetold_186 kw_1503 rfl (by decide) rfl (by decide) (by omega) (Nat.le_of_ble_eq_true rfl) hQ ?_ rfl
              rintro o S7 ⟨v7_, rfl, hQ⟩
              show ev_E g m_L_isForetold 8 (B + 361) 189 [some (ev_o 9 b0), some (ev_o 11 b1), some (ev_i u2), some (ev_o 11 w3), some (ev_y 2 w4), some (ev_i u5), some (ev_i u6), none] [ev_i v7_, ev_i v6_] S7 Q
              refine ev_icmp_ne 196 dL_isForetold_189 (by decide) (fun c7 => ?_) (fun c7 => ?_)
              · replace hQ := hQ.2 c7
                refine ev_iconst (0) dL_isForetold_196 rfl ?_
                exact ev_ireturn .boolean dL_isForetold_197 rfl rfl hQ
              · replace hQ := hQ.1 c7
                refine ev_iconst (1) dL_isForetold_192 rfl ?_
                refine ev_goto 197 dL_isForetold_193 (by decide) ?_
                exact ev_ireturn .boolean dL_isForetold_197 rfl rfl hQ
          · replace hQ := hQ.2 c5
            refine ev_aload_n (ev_o 9 b0) dL_isForetold_153 rfl rfl ?_
            refine ev_iload_n (u2) dL_isForetold_154 rfl ?_
            refine ev_cV mv_X9_arrivalDay 5 1 9 [ev_i u2] [] dL_isForetold_155 kw_1479 rfl (by decide) rfl (by decide) (by omega) (Nat.le_of_ble_eq_true rfl) hQ ?_ rfl
            rintro o S8 ⟨v8_, rfl, hQ⟩
            show ev_E g m_L_isForetold 8 (B + 6122) 158 [some (ev_o 9 b0), some (ev_o 11 b1), some (ev_i u2), some (ev_o 11 w3), some (ev_y 2 w4), some (ev_i u5), some (ev_i u6), none] [ev_i v8_] S8 Q
            refine ev_aload_n (ev_o 11 b1) dL_isForetold_158 rfl rfl ?_
            refine ev_iload_n (u2) dL_isForetold_159 rfl ?_
            refine ev_cV mv_X11_arrival 6 360 11 [ev_i u2] [ev_i v8_] dL_isForetold_160 kw_1489 rfl (by decide) rfl (by decide) (by omega) (Nat.le_of_ble_eq_true rfl) hQ ?_ rfl
            rintro o S9 ⟨v9_, rfl, hQ⟩
            show ev_E g m_L_isForetold 8 (B + 5762) 163 [some (ev_o 9 b0), some (ev_o 11 b1), some (ev_i u2), some (ev_o 11 w3), some (ev_y 2 w4), some (ev_i u5), some (ev_i u6), none] [ev_i v9_, ev_i v8_] S9 Q
            refine ev_icmp_ne 196 dL_isForetold_163 (by decide) (fun c8 => ?_) (fun c8 => ?_)
            · replace hQ := hQ.2 c8
              refine ev_iconst (0) dL_isForetold_196 rfl ?_
              exact ev_ireturn .boolean dL_isForetold_197 rfl rfl hQ
            · replace hQ := hQ.1 c8
              refine ev_aload_n (ev_o 9 b0) dL_isForetold_166 rfl rfl ?_
              refine ev_iconst (0) dL_isForetold_167 rfl ?_
              refine ev_cV mv_X9_fastestPass 5 1 9 [ev_i 0] [] dL_isForetold_168 kw_1495 rfl (by decide) rfl (by decide) (by omega) (Nat.le_of_ble_eq_true rfl) hQ ?_ rfl
              rintro o S10 ⟨v10_, rfl, hQ⟩
              show ev_E g m_L_isForetold 8 (B + 5761) 171 [some (ev_o 9 b0), some (ev_o 11 b1), some (ev_i u2), some (ev_o 11 w3), some (ev_y 2 w4), some (ev_i u5), some (ev_i u6), none] [ev_i v10_] S10 Q
              refine ev_aload_n (ev_o 11 b1) dL_isForetold_171 rfl rfl ?_
              refine ev_iconst (0) dL_isForetold_172 rfl ?_
              refine ev_cV mv_X11_fastest 7 2880 11 [ev_i 0] [ev_i v10_] dL_isForetold_173 kw_1503 rfl (by decide) rfl (by decide) (by omega) (Nat.le_of_ble_eq_true rfl) hQ ?_ rfl
              rintro o S11 ⟨v11_, rfl, hQ⟩
              show ev_E g m_L_isForetold 8 (B + 2881) 176 [some (ev_o 9 b0), some (ev_o 11 b1), some (ev_i u2), some (ev_o 11 w3), some (ev_y 2 w4), some (ev_i u5), some (ev_i u6), none] [ev_i v11_, ev_i v10_] S11 Q
              refine ev_icmp_ne 196 dL_isForetold_176 (by decide) (fun c9 => ?_) (fun c9 => ?_)
              · replace hQ := hQ.2 c9
                refine ev_iconst (0) dL_isForetold_196 rfl ?_
                exact ev_ireturn .boolean dL_isForetold_197 rfl rfl hQ
              · replace hQ := hQ.1 c9
                refine ev_aload_n (ev_o 9 b0) dL_isForetold_179 rfl rfl ?_
                refine ev_iconst (1) dL_isForetold_180 rfl ?_
                refine ev_cV mv_X9_fastestPass 5 1 9 [ev_i 1] [] dL_isForetold_181 kw_1495 rfl (by decide) rfl (by decide) (by omega) (Nat.le_of_ble_eq_true rfl) hQ ?_ rfl
                rintro o S12 ⟨v12_, rfl, hQ⟩
                show ev_E g m_L_isForetold 8 (B + 2880) 184 [some (ev_o 9 b0), some (ev_o 11 b1), some (ev_i u2), some (ev_o 11 w3), some (ev_y 2 w4), some (ev_i u5), some (ev_i u6), none] [ev_i v12_] S12 Q
                refine ev_aload_n (ev_o 11 b1) dL_isForetold_184 rfl rfl ?_
                refine ev_iconst (1) dL_isForetold_185 rfl ?_
                refine ev_cV mv_X11_fastest 7 2880 11 [ev_i 1] [ev_i v12_] dL_isForetold_186 kw_1503 rfl (by decide) rfl (by decide) (by omega) (Nat.le_of_ble_eq_true rfl) hQ ?_ rfl
                rintro o S13 ⟨v13_, rfl, hQ⟩
                show ev_E g m_L_isForetold 8 B 189 [some (ev_o 9 b0), some (ev_o 11 b1), some (ev_i u2), some (ev_o 11 w3), some (ev_y 2 w4), some (ev_i u5), some (ev_i u6), none] [ev_i v13_, ev_i v12_] S13 Q
                refine ev_icmp_ne 196 dL_isForetold_189 (by decide) (fun c10 => ?_) (fun c10 => ?_)
                · replace hQ := hQ.2 c10
                  refine ev_iconst (0) dL_isForetold_196 rfl ?_
                  exact ev_ireturn .boolean dL_isForetold_197 rfl rfl hQ
                · replace hQ := hQ.1 c10
                  refine ev_iconst (1) dL_isForetold_192 rfl ?_
                  refine ev_goto 197 dL_isForetold_193 (by decide) ?_
                  exact ev_ireturn .boolean dL_isForetold_197 rfl rfl hQ
        · replace hQ := hQ.2 c4
          refine ev_iconst (0) dL_isForetold_143 rfl ?_
          exact ev_ireturn .boolean dL_isForetold_144 rfl rfl hQ
  · replace hQ := hQ.2 c1
    refine ev_iconst (0) dL_isForetold_32 rfl ?_
    refine ev_istore dL_isForetold_33 (Nat.le_of_ble_eq_true rfl) (ev_hw rfl) ?_
    show ev_E g m_L_isForetold 8 (B + 6125) 35 [some (ev_o 9 b0), some (ev_o 11 b1), some (ev_i u2), some (ev_o 11 w3), some (ev_y 2 w4), some (ev_i u5), some (ev_i u6), some (ev_i 0)] [] S Q
    exact hQ
set_option maxHeartbeats 4000000 in
set_option maxRecDepth 100000 in
theorem sg_L_isForetold_35 {g : ev_G} {S : ev_S} {Q : ev_O → ev_S → Prop} {B : Nat} (b0 : Nat) (b1 : Nat) (u2 : Int32) (w3 : Nat) (w4 : Nat) (u5 : Int32) (u6 : Int32) (u7 : Int32) (hQ : (2 ≤ u7 → (
    (0 ≤ u5 → (
      ev_E g m_L_isForetold 8 B 100 [some (ev_o 9 b0), some (ev_o 11 b1), some (ev_i u2), some (ev_o 11 w3), some (ev_y 2 w4), some (ev_i u5), some (ev_i u6), none] [] S Q)) ∧
    (¬ (0 ≤ u5) → (
      ev_Cv g m_X11_areEqual 1 0 [ev_o 11 w3] S (fun o S1 => ∃ v1_ : Bool, o = .inl (some (ev_i (if v1_ = true then 1 else 0))) ∧ (
        (v1_ = true → (
          ev_E g m_L_isForetold 8 B 100 [some (ev_o 9 b0), some (ev_o 11 b1), some (ev_i u2), some (ev_o 11 w3), some (ev_y 2 w4), some (ev_i u6), some (ev_i u6), none] [] S1 Q)) ∧
        (¬ (v1_ = true) → (
          ev_E g m_L_isForetold 8 B 100 [some (ev_o 9 b0), some (ev_o 11 b1), some (ev_i u2), some (ev_o 11 w3), some (ev_y 2 w4), some (ev_i u5), some (ev_i u6), none] [] S1 Q)))))))) ∧
  (¬ (2 ≤ u7) → (
    (vp_in u7 2) ∧ (
      (0 ≤ (S.1 w4 u7.toNatClampNeg) → (
        ∀ S2 : ev_S, S2 = (ev_up S w4 u7.toNatClampNeg (S.1 w4 u7.toNatClampNeg)) → (
          ev_E g m_L_isForetold 8 B 73 [some (ev_o 9 b0), some (ev_o 11 b1), some (ev_i u2), some (ev_o 11 w3), some (ev_y 2 w4), some (ev_i u5), some (ev_i u6), some (ev_i u7)] [] S2 Q))) ∧
      (¬ (0 ≤ (S.1 w4 u7.toNatClampNeg)) → (
        ev_Cv g m_X11_isTurn 3 0 [ev_o 11 w3, ev_i u7] S (fun o S3 => ∃ v2_ : Bool, o = .inl (some (ev_i (if v2_ = true then 1 else 0))) ∧ (
          (v2_ = true → (
            ∀ S4 : ev_S, S4 = (ev_up S3 w4 u7.toNatClampNeg u6) → (
              ev_E g m_L_isForetold 8 B 73 [some (ev_o 9 b0), some (ev_o 11 b1), some (ev_i u2), some (ev_o 11 w3), some (ev_y 2 w4), some (ev_i u5), some (ev_i u6), some (ev_i u7)] [] S4 Q))) ∧
          (¬ (v2_ = true) → (
            ∀ S5 : ev_S, S5 = (ev_up S3 w4 u7.toNatClampNeg (S3.1 w4 u7.toNatClampNeg)) → (
              ev_E g m_L_isForetold 8 B 73 [some (ev_o 9 b0), some (ev_o 11 b1), some (ev_i u2), some (ev_o 11 w3), some (ev_y 2 w4), some (ev_i u5), some (ev_i u6), some (ev_i u7)] [] S5 Q))))))))))) : ev_E g m_L_isForetold 8 B 35 [some (ev_o 9 b0), some (ev_o 11 b1), some (ev_i u2), some (ev_o 11 w3), some (ev_y 2 w4), some (ev_i u5), some (ev_i u6), some (ev_i u7)] [] S Q := by
  refine ev_iload (u7) dL_isForetold_35 rfl ?_
  refine ev_iconst (2) dL_isForetold_37 rfl ?_
  refine ev_icmp_ge 79 dL_isForetold_38 (by decide) (fun c1 => ?_) (fun c1 => ?_)
  · replace hQ := hQ.1 c1
    refine ev_iload (u5) dL_isForetold_79 rfl ?_
    refine ev_if_ge 96 dL_isForetold_81 (by decide) (fun c2 => ?_) (fun c2 => ?_)
    · replace hQ := hQ.1 c2
      refine ev_iload (u5) dL_isForetold_96 rfl ?_
      refine ev_istore dL_isForetold_98 (Nat.le_of_ble_eq_true rfl) (ev_hw rfl) ?_
      show ev_E g m_L_isForetold 8 B 100 [some (ev_o 9 b0), some (ev_o 11 b1), some (ev_i u2), some (ev_o 11 w3), some (ev_y 2 w4), some (ev_i u5), some (ev_i u6), some (ev_i u7)] [] S Q
      refine ev_fgm [true, true, true, true, true, true, true, false] ?_
      exact hQ
    · replace hQ := hQ.2 c2
      refine ev_aload_n (ev_o 11 w3) dL_isForetold_84 rfl rfl ?_
      refine ev_cV mv_X11_areEqual 1 0 11 [] [] dL_isForetold_85 kw_1279 rfl (by decide) rfl (by decide) (by omega) (Nat.le_of_ble_eq_true rfl) hQ ?_ rfl
      rintro o S1 ⟨v1_, rfl, hQ⟩
      show ev_E g m_L_isForetold 8 B 88 [some (ev_o 9 b0), some (ev_o 11 b1), some (ev_i u2), some (ev_o 11 w3), some (ev_y 2 w4), some (ev_i u5), some (ev_i u6), some (ev_i u7)] [ev_i (if v1_ = true then 1 else 0)] S1 Q
      by_cases c3 : v1_ = true
      · rw [if_pos c3]
        replace hQ := hQ.1 c3
        refine ev_if_eq 96 dL_isForetold_88 (by decide) (fun h9 => absurd h9 (by decide : ¬ ((1 : Int32) = 0))) (fun _ => ?_)
        refine ev_iload (u6) dL_isForetold_91 rfl ?_
        refine ev_goto 98 dL_isForetold_93 (by decide) ?_
        refine ev_istore dL_isForetold_98 (Nat.le_of_ble_eq_true rfl) (ev_hw rfl) ?_
        show ev_E g m_L_isForetold 8 B 100 [some (ev_o 9 b0), some (ev_o 11 b1), some (ev_i u2), some (ev_o 11 w3), some (ev_y 2 w4), some (ev_i u6), some (ev_i u6), some (ev_i u7)] [] S1 Q
        refine ev_fgm [true, true, true, true, true, true, true, false] ?_
        exact hQ
      · rw [if_neg c3]
        replace hQ := hQ.2 c3
        refine ev_if_eq 96 dL_isForetold_88 (by decide) (fun _ => ?_) (fun h9 => absurd (by decide : ((0 : Int32) = 0)) h9)
        refine ev_iload (u5) dL_isForetold_96 rfl ?_
        refine ev_istore dL_isForetold_98 (Nat.le_of_ble_eq_true rfl) (ev_hw rfl) ?_
        show ev_E g m_L_isForetold 8 B 100 [some (ev_o 9 b0), some (ev_o 11 b1), some (ev_i u2), some (ev_o 11 w3), some (ev_y 2 w4), some (ev_i u5), some (ev_i u6), some (ev_i u7)] [] S1 Q
        refine ev_fgm [true, true, true, true, true, true, true, false] ?_
        exact hQ
  · replace hQ := hQ.2 c1
    refine ev_aload (ev_y 2 w4) dL_isForetold_41 rfl rfl ?_
    refine ev_iload (u7) dL_isForetold_43 rfl ?_
    refine ev_aload (ev_y 2 w4) dL_isForetold_45 rfl rfl ?_
    refine ev_iload (u7) dL_isForetold_47 rfl ?_
    obtain ⟨h1, hQ⟩ := hQ
    refine ev_iaload dL_isForetold_49 h1 ?_
    refine ev_if_ge 67 dL_isForetold_50 (by decide) (fun c4 => ?_) (fun c4 => ?_)
    · replace hQ := hQ.1 c4
      refine ev_aload (ev_y 2 w4) dL_isForetold_67 rfl rfl ?_
      refine ev_iload (u7) dL_isForetold_69 rfl ?_
      refine ev_iaload dL_isForetold_71 h1 ?_
      refine ev_iastore dL_isForetold_72 h1 ?_
      refine ev_sub hQ (fun S2 hS2 hQ => ?_)
      refine ev_E.goal (pc' := 73) (L' := [some (ev_o 9 b0), some (ev_o 11 b1), some (ev_i u2), some (ev_o 11 w3), some (ev_y 2 w4), some (ev_i u5), some (ev_i u6), some (ev_i u7)]) (K' := []) (S' := S2) ?_ rfl rfl rfl hS2
      exact hQ
    · replace hQ := hQ.2 c4
      refine ev_aload_n (ev_o 11 w3) dL_isForetold_53 rfl rfl ?_
      refine ev_iload (u7) dL_isForetold_54 rfl ?_
      refine ev_cV mv_X11_isTurn 3 0 11 [ev_i u7] [ev_i u7, ev_y 2 w4] dL_isForetold_56 kw_1031 rfl (by decide) rfl (by decide) (by omega) (Nat.le_of_ble_eq_true rfl) hQ ?_ rfl
      rintro o S3 ⟨v2_, rfl, hQ⟩
      show ev_E g m_L_isForetold 8 B 59 [some (ev_o 9 b0), some (ev_o 11 b1), some (ev_i u2), some (ev_o 11 w3), some (ev_y 2 w4), some (ev_i u5), some (ev_i u6), some (ev_i u7)] [ev_i (if v2_ = true then 1 else 0), ev_i u7, ev_y 2 w4] S3 Q
      by_cases c5 : v2_ = true
      · rw [if_pos c5]
        replace hQ := hQ.1 c5
        refine ev_if_eq 67 dL_isForetold_59 (by decide) (fun h9 => absurd h9 (by decide : ¬ ((1 : Int32) = 0))) (fun _ => ?_)
        refine ev_iload (u6) dL_isForetold_62 rfl ?_
        refine ev_goto 72 dL_isForetold_64 (by decide) ?_
        refine ev_iastore dL_isForetold_72 h1 ?_
        refine ev_sub hQ (fun S4 hS4 hQ => ?_)
        refine ev_E.goal (pc' := 73) (L' := [some (ev_o 9 b0), some (ev_o 11 b1), some (ev_i u2), some (ev_o 11 w3), some (ev_y 2 w4), some (ev_i u5), some (ev_i u6), some (ev_i u7)]) (K' := []) (S' := S4) ?_ rfl rfl rfl hS4
        exact hQ
      · rw [if_neg c5]
        replace hQ := hQ.2 c5
        refine ev_if_eq 67 dL_isForetold_59 (by decide) (fun _ => ?_) (fun h9 => absurd (by decide : ((0 : Int32) = 0)) h9)
        refine ev_aload (ev_y 2 w4) dL_isForetold_67 rfl rfl ?_
        refine ev_iload (u7) dL_isForetold_69 rfl ?_
        refine ev_iaload dL_isForetold_71 h1 ?_
        refine ev_iastore dL_isForetold_72 h1 ?_
        refine ev_sub hQ (fun S5 hS5 hQ => ?_)
        refine ev_E.goal (pc' := 73) (L' := [some (ev_o 9 b0), some (ev_o 11 b1), some (ev_i u2), some (ev_o 11 w3), some (ev_y 2 w4), some (ev_i u5), some (ev_i u6), some (ev_i u7)]) (K' := []) (S' := S5) ?_ rfl rfl rfl hS5
        exact hQ
set_option maxHeartbeats 4000000 in
set_option maxRecDepth 100000 in
theorem sg_L_isForetold_100 {g : ev_G} {S : ev_S} {Q : ev_O → ev_S → Prop} {B : Nat} (b0 : Nat) (b1 : Nat) (u2 : Int32) (w3 : Nat) (w4 : Nat) (u5 : Int32) (u6 : Int32) (hQ : ev_Cv g m_X11_passes 5 0 [ev_o 11 w3] S (fun o S1 => o = .inl none ∧ (
    ev_E g m_L_isForetold 8 B 24 [some (ev_o 9 b0), some (ev_o 11 b1), some (ev_i u2), some (ev_o 11 w3), some (ev_y 2 w4), some (ev_i u5), some (ev_i (u6 + 1)), none] [] S1 Q))) : ev_E g m_L_isForetold 8 B 100 [some (ev_o 9 b0), some (ev_o 11 b1), some (ev_i u2), some (ev_o 11 w3), some (ev_y 2 w4), some (ev_i u5), some (ev_i u6), none] [] S Q := by
  refine ev_aload_n (ev_o 11 w3) dL_isForetold_100 rfl rfl ?_
  refine ev_cV mv_X11_passes 5 0 11 [] [] dL_isForetold_101 kw_1371 rfl (by decide) rfl (by decide) (by omega) (Nat.le_of_ble_eq_true rfl) hQ ?_ rfl
  rintro o S1 ⟨rfl, hQ⟩
  show ev_E g m_L_isForetold 8 B 104 [some (ev_o 9 b0), some (ev_o 11 b1), some (ev_i u2), some (ev_o 11 w3), some (ev_y 2 w4), some (ev_i u5), some (ev_i u6), none] [] S1 Q
  refine ev_iinc u6 (1) dL_isForetold_104 rfl (by decide) (ev_hw rfl) ?_
  show ev_E g m_L_isForetold 8 B 107 [some (ev_o 9 b0), some (ev_o 11 b1), some (ev_i u2), some (ev_o 11 w3), some (ev_y 2 w4), some (ev_i u5), some (ev_i (u6 + 1)), none] [] S1 Q
  refine ev_goto 24 dL_isForetold_107 (by decide) ?_
  exact hQ
set_option maxHeartbeats 4000000 in
set_option maxRecDepth 100000 in
theorem sg_L_isForetold_73 {g : ev_G} {S : ev_S} {Q : ev_O → ev_S → Prop} {B : Nat} (b0 : Nat) (b1 : Nat) (u2 : Int32) (w3 : Nat) (w4 : Nat) (u5 : Int32) (u6 : Int32) (u7 : Int32) (hQ : ev_E g m_L_isForetold 8 B 35 [some (ev_o 9 b0), some (ev_o 11 b1), some (ev_i u2), some (ev_o 11 w3), some (ev_y 2 w4), some (ev_i u5), some (ev_i u6), some (ev_i (u7 + 1))] [] S Q) : ev_E g m_L_isForetold 8 B 73 [some (ev_o 9 b0), some (ev_o 11 b1), some (ev_i u2), some (ev_o 11 w3), some (ev_y 2 w4), some (ev_i u5), some (ev_i u6), some (ev_i u7)] [] S Q := by
  refine ev_iinc u7 (1) dL_isForetold_73 rfl (by decide) (ev_hw rfl) ?_
  show ev_E g m_L_isForetold 8 B 76 [some (ev_o 9 b0), some (ev_o 11 b1), some (ev_i u2), some (ev_o 11 w3), some (ev_y 2 w4), some (ev_i u5), some (ev_i u6), some (ev_i (u7 + 1))] [] S Q
  refine ev_goto 35 dL_isForetold_76 (by decide) ?_
  exact hQ
set_option maxHeartbeats 4000000 in
set_option maxRecDepth 100000 in
theorem sg_L_moves_0 {g : ev_G} {S : ev_S} {Q : ev_O → ev_S → Prop} {B : Nat} (b0 : Nat) (b1 : Nat) (x2 : Int32) (x3 : Int32) (x4 : Int32) (hQ : ev_Cv g m_X11_isTurn 3 0 [ev_o 11 b1, ev_i x2] S (fun o S1 => ∃ v1_ : Bool, o = .inl (some (ev_i (if v1_ = true then 1 else 0))) ∧ (
    (v1_ = true → (
      ((S1.1 b1 4) = 80 → (
        ∀ S8 : ev_S, S8 = (ev_up S1 b1 33 1) → (
          Q (.inl (some (ev_i 1))) S8))) ∧
      (¬ ((S1.1 b1 4) = 80) → (
        (vp_in x2 2) ∧ (
          ev_Cv g m_L_some 2 0 [ev_o 11 b1, ev_o 10 (a_bd (b1 + 1) x2), ev_i x2, ev_i x3] S1 (fun o S2 => ∃ v2_ : Int32, o = .inl (some (ev_i v2_)) ∧ (
            (0 ≤ v2_ → (
              ev_Cv g m_X11_applies 1 0 [ev_o 11 b1, ev_i x2, ev_i (v2_ / 64), ev_i (ev_rem v2_ 64)] S2 (fun o S3 => o = .inl none ∧ (
                ev_Cv g m_X11_posts 1 0 [ev_o 11 b1, ev_i x2, ev_i x4, ev_i 0, ev_i ((S2.1 (a_bd (b1 + 1) x2) 6) + 1), ev_i (v2_ / 64), ev_i (ev_rem v2_ 64)] S3 (fun o S4 => ∃ v4_ : Int32, o = .inl (some (ev_i v4_)) ∧ (
                  ev_Cv g m_X11_goesOn 3 0 [ev_o 11 b1, ev_i x2] S4 (fun o S5 => o = .inl none ∧ (
                    ev_Cv g m_X9_move 6 1 [ev_o 9 b0, ev_i x2, ev_i (v2_ / 64), ev_i (ev_rem v2_ 64), ev_i x4] S5 (fun o S6 => ∃ v6_ : Int32, o = .inl (some (ev_i v6_)) ∧ (
                      (v6_ = ((S2.1 (a_bd (b1 + 1) x2) 6) + 1) → (
                        Q (.inl (some (ev_i 1))) S6)) ∧
                      (¬ (v6_ = ((S2.1 (a_bd (b1 + 1) x2) 6) + 1)) → (
                        Q (.inl (some (ev_i 0))) S6)))))))))))) ∧
            (¬ (0 ≤ v2_) → (
              ∀ S7 : ev_S, S7 = (ev_up S2 b1 33 1) → (
                Q (.inl (some (ev_i 1))) S7)))))))))) ∧
    (¬ (v1_ = true) → (
      ∀ S9 : ev_S, S9 = (ev_up S1 b1 33 1) → (
        Q (.inl (some (ev_i 1))) S9)))))) : ev_Cv g m_L_moves 7 (B + 1) [ev_o 9 b0, ev_o 11 b1, ev_i x2, ev_i x3, ev_i x4] S Q := by
  refine ev_enter (by decide) rfl rfl (Nat.le_of_ble_eq_true rfl) ?_
  show ev_E g m_L_moves 7 (B + 1) 0 [some (ev_o 9 b0), some (ev_o 11 b1), some (ev_i x2), some (ev_i x3), some (ev_i x4), none, none, none] [] S Q
  refine ev_aload_n (ev_o 11 b1) dL_moves_0 rfl rfl ?_
  refine ev_iload_n (x2) dL_moves_1 rfl ?_
  refine ev_cV mv_X11_isTurn 3 0 11 [ev_i x2] [] dL_moves_2 kw_1031 rfl (by decide) rfl (by decide) (by omega) (Nat.le_of_ble_eq_true rfl) hQ ?_ rfl
  rintro o S1 ⟨v1_, rfl, hQ⟩
  show ev_E g m_L_moves 7 (B + 1) 5 [some (ev_o 9 b0), some (ev_o 11 b1), some (ev_i x2), some (ev_i x3), some (ev_i x4), none, none, none] [ev_i (if v1_ = true then 1 else 0)] S1 Q
  by_cases c1 : v1_ = true
  · rw [if_pos c1]
    replace hQ := hQ.1 c1
    refine ev_if_eq 17 dL_moves_5 (by decide) (fun h9 => absurd h9 (by decide : ¬ ((1 : Int32) = 0))) (fun _ => ?_)
    refine ev_aload_n (ev_o 11 b1) dL_moves_8 rfl rfl ?_
    refine gn_11_4 dL_moves_9 (List.mem_of_getElem? (i := 25) rfl) ?_
    refine ev_bipush (80) dL_moves_12 (by decide) ?_
    refine ev_icmp_ne 22 dL_moves_14 (by decide) (fun c2 => ?_) (fun c2 => ?_)
    · replace hQ := hQ.2 c2
      refine ev_aload_n (ev_o 11 b1) dL_moves_22 rfl rfl ?_
      refine ev_aload_n (ev_o 11 b1) dL_moves_23 rfl rfl ?_
      refine gn_11_11 dL_moves_24 (List.mem_of_getElem? (i := 31) rfl) ?_
      refine ev_iload_n (x2) dL_moves_27 rfl ?_
      obtain ⟨h1, hQ⟩ := hQ
      refine ev_aalB dL_moves_28 h1 ?_
      show ev_E g m_L_moves 7 (B + 1) 29 [some (ev_o 9 b0), some (ev_o 11 b1), some (ev_i x2), some (ev_i x3), some (ev_i x4), none, none, none] [ev_o 10 (a_bd (b1 + 1) x2), ev_o 11 b1] S1 Q
      refine ev_iload_n (x2) dL_moves_29 rfl ?_
      refine ev_iload_n (x3) dL_moves_30 rfl ?_
      refine ev_cS ms_L_some 2 0 [ev_o 11 b1, ev_o 10 (a_bd (b1 + 1) x2), ev_i x2, ev_i x3] [] dL_moves_31 kw_1522 rfl (by decide) (by omega) (Nat.le_of_ble_eq_true rfl) hQ ?_ rfl
      rintro o S2 ⟨v2_, rfl, hQ⟩
      show ev_E g m_L_moves 7 (B + 1) 34 [some (ev_o 9 b0), some (ev_o 11 b1), some (ev_i x2), some (ev_i x3), some (ev_i x4), none, none, none] [ev_i v2_] S2 Q
      refine ev_istore dL_moves_34 (Nat.le_of_ble_eq_true rfl) (ev_hw rfl) ?_
      show ev_E g m_L_moves 7 (B + 1) 36 [some (ev_o 9 b0), some (ev_o 11 b1), some (ev_i x2), some (ev_i x3), some (ev_i x4), some (ev_i v2_), none, none] [] S2 Q
      refine ev_iload (v2_) dL_moves_36 rfl ?_
      refine ev_if_ge 46 dL_moves_38 (by decide) (fun c3 => ?_) (fun c3 => ?_)
      · replace hQ := hQ.1 c3
        refine ev_aload_n (ev_o 11 b1) dL_moves_46 rfl rfl ?_
        refine gn_11_11 dL_moves_47 (List.mem_of_getElem? (i := 31) rfl) ?_
        refine ev_iload_n (x2) dL_moves_50 rfl ?_
        refine ev_aalB dL_moves_51 h1 ?_
        show ev_E g m_L_moves 7 (B + 1) 52 [some (ev_o 9 b0), some (ev_o 11 b1), some (ev_i x2), some (ev_i x3), some (ev_i x4), some (ev_i v2_), none, none] [ev_o 10 (a_bd (b1 + 1) x2)] S2 Q
        refine gn_10_6 dL_moves_52 (List.mem_of_getElem? (i := 11) rfl) ?_
        refine ev_iconst (1) dL_moves_55 rfl ?_
        refine ev_iadd dL_moves_56 ?_
        refine ev_istore dL_moves_57 (Nat.le_of_ble_eq_true rfl) (ev_hw rfl) ?_
        show ev_E g m_L_moves 7 (B + 1) 59 [some (ev_o 9 b0), some (ev_o 11 b1), some (ev_i x2), some (ev_i x3), some (ev_i x4), some (ev_i v2_), some (ev_i ((S2.1 (a_bd (b1 + 1) x2) 6) + 1)), none] [] S2 Q
        refine ev_aload_n (ev_o 11 b1) dL_moves_59 rfl rfl ?_
        refine ev_iload_n (x2) dL_moves_60 rfl ?_
        refine ev_iload (v2_) dL_moves_61 rfl ?_
        refine ev_bipush (64) dL_moves_63 (by decide) ?_
        refine ev_idiv dL_moves_65 (by decide) ?_
        refine ev_iload (v2_) dL_moves_66 rfl ?_
        refine ev_bipush (64) dL_moves_68 (by decide) ?_
        refine ev_irem dL_moves_70 (by decide) ?_
        refine ev_cV mv_X11_applies 1 0 11 [ev_i x2, ev_i (v2_ / 64), ev_i (ev_rem v2_ 64)] [] dL_moves_71 kw_1525 rfl (by decide) rfl (by decide) (by omega) (Nat.le_of_ble_eq_true rfl) hQ ?_ rfl
        rintro o S3 ⟨rfl, hQ⟩
        show ev_E g m_L_moves 7 (B + 1) 74 [some (ev_o 9 b0), some (ev_o 11 b1), some (ev_i x2), some (ev_i x3), some (ev_i x4), some (ev_i v2_), some (ev_i ((S2.1 (a_bd (b1 + 1) x2) 6) + 1)), none] [] S3 Q
        refine ev_aload_n (ev_o 11 b1) dL_moves_74 rfl rfl ?_
        refine ev_iload_n (x2) dL_moves_75 rfl ?_
        refine ev_iload (x4) dL_moves_76 rfl ?_
        refine ev_iconst (0) dL_moves_78 rfl ?_
        refine ev_iload (((S2.1 (a_bd (b1 + 1) x2) 6) + 1)) dL_moves_79 rfl ?_
        refine ev_iload (v2_) dL_moves_81 rfl ?_
        refine ev_bipush (64) dL_moves_83 (by decide) ?_
        refine ev_idiv dL_moves_85 (by decide) ?_
        refine ev_iload (v2_) dL_moves_86 rfl ?_
        refine ev_bipush (64) dL_moves_88 (by decide) ?_
        refine ev_irem dL_moves_90 (by decide) ?_
        refine ev_cV mv_X11_posts 1 0 11 [ev_i x2, ev_i x4, ev_i 0, ev_i ((S2.1 (a_bd (b1 + 1) x2) 6) + 1), ev_i (v2_ / 64), ev_i (ev_rem v2_ 64)] [] dL_moves_91 kw_1526 rfl (by decide) rfl (by decide) (by omega) (Nat.le_of_ble_eq_true rfl) hQ ?_ rfl
        rintro o S4 ⟨v4_, rfl, hQ⟩
        show ev_E g m_L_moves 7 (B + 1) 94 [some (ev_o 9 b0), some (ev_o 11 b1), some (ev_i x2), some (ev_i x3), some (ev_i x4), some (ev_i v2_), some (ev_i ((S2.1 (a_bd (b1 + 1) x2) 6) + 1)), none] [ev_i v4_] S4 Q
        refine ev_istore dL_moves_94 (Nat.le_of_ble_eq_true rfl) (ev_hw rfl) ?_
        show ev_E g m_L_moves 7 (B + 1) 96 [some (ev_o 9 b0), some (ev_o 11 b1), some (ev_i x2), some (ev_i x3), some (ev_i x4), some (ev_i v2_), some (ev_i ((S2.1 (a_bd (b1 + 1) x2) 6) + 1)), some (ev_i v4_)] [] S4 Q
        refine ev_aload_n (ev_o 11 b1) dL_moves_96 rfl rfl ?_
        refine ev_iload_n (x2) dL_moves_97 rfl ?_
        refine ev_cV mv_X11_goesOn 3 0 11 [ev_i x2] [] dL_moves_98 kw_1527 rfl (by decide) rfl (by decide) (by omega) (Nat.le_of_ble_eq_true rfl) hQ ?_ rfl
        rintro o S5 ⟨rfl, hQ⟩
        show ev_E g m_L_moves 7 (B + 1) 101 [some (ev_o 9 b0), some (ev_o 11 b1), some (ev_i x2), some (ev_i x3), some (ev_i x4), some (ev_i v2_), some (ev_i ((S2.1 (a_bd (b1 + 1) x2) 6) + 1)), some (ev_i v4_)] [] S5 Q
        refine ev_aload_n (ev_o 9 b0) dL_moves_101 rfl rfl ?_
        refine ev_iload_n (x2) dL_moves_102 rfl ?_
        refine ev_iload (v2_) dL_moves_103 rfl ?_
        refine ev_bipush (64) dL_moves_105 (by decide) ?_
        refine ev_idiv dL_moves_107 (by decide) ?_
        refine ev_iload (v2_) dL_moves_108 rfl ?_
        refine ev_bipush (64) dL_moves_110 (by decide) ?_
        refine ev_irem dL_moves_112 (by decide) ?_
        refine ev_iload (x4) dL_moves_113 rfl ?_
        refine ev_cV mv_X9_move 6 1 9 [ev_i x2, ev_i (v2_ / 64), ev_i (ev_rem v2_ 64), ev_i x4] [] dL_moves_115 kw_1528 rfl (by decide) rfl (by decide) (by omega) (Nat.le_of_ble_eq_true rfl) hQ ?_ rfl
        rintro o S6 ⟨v6_, rfl, hQ⟩
        show ev_E g m_L_moves 7 B 118 [some (ev_o 9 b0), some (ev_o 11 b1), some (ev_i x2), some (ev_i x3), some (ev_i x4), some (ev_i v2_), some (ev_i ((S2.1 (a_bd (b1 + 1) x2) 6) + 1)), some (ev_i v4_)] [ev_i v6_] S6 Q
        refine ev_iload (((S2.1 (a_bd (b1 + 1) x2) 6) + 1)) dL_moves_118 rfl ?_
        refine ev_icmp_ne 127 dL_moves_120 (by decide) (fun c4 => ?_) (fun c4 => ?_)
        · replace hQ := hQ.2 c4
          refine ev_iconst (0) dL_moves_127 rfl ?_
          exact ev_ireturn .boolean dL_moves_128 rfl rfl hQ
        · replace hQ := hQ.1 c4
          refine ev_iconst (1) dL_moves_123 rfl ?_
          refine ev_goto 128 dL_moves_124 (by decide) ?_
          exact ev_ireturn .boolean dL_moves_128 rfl rfl hQ
      · replace hQ := hQ.2 c3
        refine ev_aload_n (ev_o 11 b1) dL_moves_41 rfl rfl ?_
        refine ev_fV mv_X11_leaves 1 11 [] [] dL_moves_42 kw_1518 rfl (by decide) rfl (by decide) (Nat.le_of_ble_eq_true rfl) (sp_X11_leaves b1) ?_ rfl
        refine ev_sub hQ (fun S7 hS7 hQ => ?_)
        refine ev_E.goal (pc' := 45) (L' := [some (ev_o 9 b0), some (ev_o 11 b1), some (ev_i x2), some (ev_i x3), some (ev_i x4), some (ev_i v2_), none, none]) (K' := [ev_i 1]) (S' := S7) ?_ rfl rfl rfl hS7
        exact ev_ireturn .boolean dL_moves_45 rfl rfl hQ
    · replace hQ := hQ.1 c2
      refine ev_aload_n (ev_o 11 b1) dL_moves_17 rfl rfl ?_
      refine ev_fV mv_X11_leaves 1 11 [] [] dL_moves_18 kw_1518 rfl (by decide) rfl (by decide) (Nat.le_of_ble_eq_true rfl) (sp_X11_leaves b1) ?_ rfl
      refine ev_sub hQ (fun S8 hS8 hQ => ?_)
      refine ev_E.goal (pc' := 21) (L' := [some (ev_o 9 b0), some (ev_o 11 b1), some (ev_i x2), some (ev_i x3), some (ev_i x4), none, none, none]) (K' := [ev_i 1]) (S' := S8) ?_ rfl rfl rfl hS8
      exact ev_ireturn .boolean dL_moves_21 rfl rfl hQ
  · rw [if_neg c1]
    replace hQ := hQ.2 c1
    refine ev_if_eq 17 dL_moves_5 (by decide) (fun _ => ?_) (fun h9 => absurd (by decide : ((0 : Int32) = 0)) h9)
    refine ev_aload_n (ev_o 11 b1) dL_moves_17 rfl rfl ?_
    refine ev_fV mv_X11_leaves 1 11 [] [] dL_moves_18 kw_1518 rfl (by decide) rfl (by decide) (Nat.le_of_ble_eq_true rfl) (sp_X11_leaves b1) ?_ rfl
    refine ev_sub hQ (fun S9 hS9 hQ => ?_)
    refine ev_E.goal (pc' := 21) (L' := [some (ev_o 9 b0), some (ev_o 11 b1), some (ev_i x2), some (ev_i x3), some (ev_i x4), none, none, none]) (K' := [ev_i 1]) (S' := S9) ?_ rfl rfl rfl hS9
    exact ev_ireturn .boolean dL_moves_21 rfl rfl hQ
