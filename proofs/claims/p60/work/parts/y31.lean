/-! ===== the walk of the law (printed by mklaw.py) ===== -/
def m_L_law : ev_M := (RL, (yL_law, (cL_law, (7, (some FieldType.boolean, [])))))
set_option maxHeartbeats 1000000 in
set_option maxRecDepth 100000 in
theorem sg_L_law_8 {g : ev_G} {S : ev_S} {Q : ev_O → ev_S → Prop} {B : Nat} (k0 : Nat) (b1 : Nat) (hQ : ∀ q1_, ev_lw g ((0, q1_) :: S.2.1) → ∀ S1 : ev_S, S1 = ev_nt S 0 q1_ (ct_row ct_t11) → (
    ev_Cv g m_L_begins 9 18000 [ev_o 9 b1, ev_o 11 q1_, ev_x 0 k0] S1 (fun o S2 => ∃ v1_ : Bool, o = .inl (some (ev_i (if v1_ = true then 1 else 0))) ∧ (
      (v1_ = true → (
        ∀ q2_, ev_lw g ((2, q2_) :: S2.2.1) → ∀ S3 : ev_S, S3 = ev_nt S2 2 q2_ (fun _ _ => 0) → (
          ev_E g m_L_law 10 B 39 [some (ev_x 0 k0), some (ev_o 9 b1), some (ev_o 11 q1_), some (ev_o 25 q2_), some (ev_i 0), some (ev_i 0), none] [] S3 Q))) ∧
      (¬ (v1_ = true) → (
        Q (.inl (some (ev_i 0))) S2)))))) : ev_E g m_L_law 10 (B + 18368) 8 [some (ev_x 0 k0), some (ev_o 9 b1), none, none, none, none, none] [] S Q := by
  refine ev_newT0 dL_law_8 dL_law_11 dL_law_12 kw_725 (Or.inl ⟨_, List.mem_of_getElem? (i := 19) rfl⟩) (by omega) (by decide) (Nat.le_of_ble_eq_true rfl) (fun q1_ w1_ => ?_)
  replace hQ := hQ q1_ w1_
  refine ev_sub hQ (fun S1 hS1 hQ => ?_)
  refine ev_E.goal (pc' := 15) (L' := [some (ev_x 0 k0), some (ev_o 9 b1), none, none, none, none, none]) (K' := [ev_o 11 q1_]) (S' := S1) ?_ rfl rfl rfl hS1
  refine ev_astore_n dL_law_15 rfl (Nat.le_of_ble_eq_true rfl) (ev_hw rfl) ?_
  show ev_E g m_L_law 10 (B + 18008) 16 [some (ev_x 0 k0), some (ev_o 9 b1), some (ev_o 11 q1_), none, none, none, none] [] S1 Q
  refine ev_aload_n (ev_o 9 b1) dL_law_16 rfl rfl ?_
  refine ev_aload_n (ev_o 11 q1_) dL_law_17 rfl rfl ?_
  refine ev_aload_n (ev_x 0 k0) dL_law_18 rfl rfl ?_
  refine ev_cS ms_L_begins 9 18000 [ev_o 9 b1, ev_o 11 q1_, ev_x 0 k0] [] dL_law_19 kw_1657 rfl (by decide) (by omega) (Nat.le_of_ble_eq_true rfl) hQ ?_ rfl
  rintro o S2 ⟨v1_, rfl, hQ⟩
  show ev_E g m_L_law 10 (B + 8) 22 [some (ev_x 0 k0), some (ev_o 9 b1), some (ev_o 11 q1_), none, none, none, none] [ev_i (if v1_ = true then 1 else 0)] S2 Q
  by_cases c1 : v1_ = true
  · rw [if_pos c1]
    replace hQ := hQ.1 c1
    refine ev_if_ne 27 dL_law_22 (by decide) (fun _ => ?_) (fun h9 => absurd h9 (by decide : ¬ ((1 : Int32) = 0)))
    refine ev_bipush (44) dL_law_27 (by decide) ?_
    refine ev_newOs dL_law_29 kw_725 rfl (by omega) (fun q2_ w2_ => ?_)
    replace hQ := hQ q2_ w2_
    refine ev_sub hQ (fun S3 hS3 hQ => ?_)
    refine ev_E.goal (pc' := 32) (L' := [some (ev_x 0 k0), some (ev_o 9 b1), some (ev_o 11 q1_), none, none, none, none]) (K' := [ev_o 25 q2_]) (S' := S3) ?_ rfl rfl rfl hS3
    refine ev_astore_n dL_law_32 rfl (Nat.le_of_ble_eq_true rfl) (ev_hw rfl) ?_
    show ev_E g m_L_law 10 B 33 [some (ev_x 0 k0), some (ev_o 9 b1), some (ev_o 11 q1_), some (ev_o 25 q2_), none, none, none] [] S3 Q
    refine ev_iconst (0) dL_law_33 rfl ?_
    refine ev_istore dL_law_34 (Nat.le_of_ble_eq_true rfl) (ev_hw rfl) ?_
    show ev_E g m_L_law 10 B 36 [some (ev_x 0 k0), some (ev_o 9 b1), some (ev_o 11 q1_), some (ev_o 25 q2_), some (ev_i 0), none, none] [] S3 Q
    refine ev_iconst (0) dL_law_36 rfl ?_
    refine ev_istore dL_law_37 (Nat.le_of_ble_eq_true rfl) (ev_hw rfl) ?_
    show ev_E g m_L_law 10 B 39 [some (ev_x 0 k0), some (ev_o 9 b1), some (ev_o 11 q1_), some (ev_o 25 q2_), some (ev_i 0), some (ev_i 0), none] [] S3 Q
    exact hQ
  · rw [if_neg c1]
    replace hQ := hQ.2 c1
    refine ev_if_ne 27 dL_law_22 (by decide) (fun h9 => absurd (by decide : ((0 : Int32) = 0)) h9) (fun _ => ?_)
    refine ev_iconst (0) dL_law_25 rfl ?_
    exact ev_ireturn .boolean dL_law_26 rfl rfl hQ
set_option maxHeartbeats 1000000 in
set_option maxRecDepth 100000 in
theorem sg_L_law_39 {g : ev_G} {S : ev_S} {Q : ev_O → ev_S → Prop} {B : Nat} (k0 : Nat) (b1 : Nat) (w2 : Nat) (w3 : Nat) (u4 : Int32) (u5 : Int32) (hQ : (42 ≤ u5 → (
    ev_Cv g m_L_isAs 7 1300 [ev_o 9 b1, ev_o 11 w2] S (fun o S1 => ∃ v1_ : Bool, o = .inl (some (ev_i (if v1_ = true then 1 else 0))) ∧ (
      (v1_ = true → (
        ev_E g m_L_law 10 (B + 11200) 195 [none, some (ev_o 9 b1), none, some (ev_o 25 w3), none, some (ev_i (ev_min 8 u4)), some (ev_i (u4 - 1))] [] S1 Q)) ∧
      (¬ (v1_ = true) → (
        Q (.inl (some (ev_i 0))) S1)))))) ∧
  (¬ (42 ≤ u5) → (
    ev_Cv g m_L_isAs 7 1300 [ev_o 9 b1, ev_o 11 w2] S (fun o S2 => ∃ v2_ : Bool, o = .inl (some (ev_i (if v2_ = true then 1 else 0))) ∧ (
      (v2_ = true → (
        ((ev_rem u5 14) = 9 → (
          ev_Cv g m_L_areMoves 6 4200 [ev_o 9 b1, ev_o 11 w2, ev_i (ev_rem u5 2)] S2 (fun o S3 => ∃ v3_ : Bool, o = .inl (some (ev_i (if v3_ = true then 1 else 0))) ∧ (
            (v3_ = true → (
              (¬ ((Int32.ofNat (ev_sl g)) = 0) → ¬ (Int32.ofNat (ev_sl g)) = 0) ∧ (
                (¬ ((Int32.ofNat (ev_sl g)) = 0) → vp_in (ev_rem (47 + u5) (Int32.ofNat (ev_sl g))) (ev_sl g)) ∧ (
                  (¬ ((S3.1 w2 4) + 1) = 0) ∧ (
                    ev_Cv g m_L_isForetold 8 7000 [ev_o 9 b1, ev_o 11 w2, ev_i (ev_rem ((f_L_cell g k0 (47 + u5)) &&& 65535) ((S3.1 w2 4) + 1))] S3 (fun o S4 => ∃ v4_ : Bool, o = .inl (some (ev_i (if v4_ = true then 1 else 0))) ∧ (
                      (v4_ = true → (
                        ev_E g m_L_law 10 B 101 [some (ev_x 0 k0), some (ev_o 9 b1), some (ev_o 11 w2), some (ev_o 25 w3), some (ev_i u4), some (ev_i u5), none] [] S4 Q)) ∧
                      (¬ (v4_ = true) → (
                        Q (.inl (some (ev_i 0))) S4))))))))) ∧
            (¬ (v3_ = true) → (
              Q (.inl (some (ev_i 0))) S3)))))) ∧
        (¬ ((ev_rem u5 14) = 9) → (
          ev_E g m_L_law 10 (B + 11200) 101 [some (ev_x 0 k0), some (ev_o 9 b1), some (ev_o 11 w2), some (ev_o 25 w3), some (ev_i u4), some (ev_i u5), none] [] S2 Q)))) ∧
      (¬ (v2_ = true) → (
        Q (.inl (some (ev_i 0))) S2))))))) : ev_E g m_L_law 10 (B + 12500) 39 [some (ev_x 0 k0), some (ev_o 9 b1), some (ev_o 11 w2), some (ev_o 25 w3), some (ev_i u4), some (ev_i u5), none] [] S Q := by
  refine ev_iload (u5) dL_law_39 rfl ?_
  refine ev_bipush (42) dL_law_41 (by decide) ?_
  refine ev_icmp_ge 170 dL_law_43 (by decide) (fun c1 => ?_) (fun c1 => ?_)
  · replace hQ := hQ.1 c1
    refine ev_aload_n (ev_o 9 b1) dL_law_170 rfl rfl ?_
    refine ev_aload_n (ev_o 11 w2) dL_law_171 rfl rfl ?_
    refine ev_cS ms_L_isAs 7 1300 [ev_o 9 b1, ev_o 11 w2] [] dL_law_172 kw_944 rfl (by decide) (by omega) (Nat.le_of_ble_eq_true rfl) hQ ?_ rfl
    rintro o S1 ⟨v1_, rfl, hQ⟩
    show ev_E g m_L_law 10 (B + 11200) 175 [some (ev_x 0 k0), some (ev_o 9 b1), some (ev_o 11 w2), some (ev_o 25 w3), some (ev_i u4), some (ev_i u5), none] [ev_i (if v1_ = true then 1 else 0)] S1 Q
    by_cases c2 : v1_ = true
    · rw [if_pos c2]
      replace hQ := hQ.1 c2
      refine ev_if_ne 180 dL_law_175 (by decide) (fun _ => ?_) (fun h9 => absurd h9 (by decide : ¬ ((1 : Int32) = 0)))
      refine ev_bipush (8) dL_law_180 (by decide) ?_
      refine ev_iload (u4) dL_law_182 rfl ?_
      refine ev_mathMin dL_law_184 kw_1939 kw_424 kw_31 kw_425 (Nat.le_of_ble_eq_true rfl) ?_
      refine ev_istore dL_law_187 (Nat.le_of_ble_eq_true rfl) (ev_hw rfl) ?_
      show ev_E g m_L_law 10 (B + 11200) 189 [some (ev_x 0 k0), some (ev_o 9 b1), some (ev_o 11 w2), some (ev_o 25 w3), some (ev_i u4), some (ev_i (ev_min 8 u4)), none] [] S1 Q
      refine ev_iload (u4) dL_law_189 rfl ?_
      refine ev_iconst (1) dL_law_191 rfl ?_
      refine ev_isub dL_law_192 ?_
      refine ev_istore dL_law_193 (Nat.le_of_ble_eq_true rfl) (ev_hw rfl) ?_
      show ev_E g m_L_law 10 (B + 11200) 195 [some (ev_x 0 k0), some (ev_o 9 b1), some (ev_o 11 w2), some (ev_o 25 w3), some (ev_i u4), some (ev_i (ev_min 8 u4)), some (ev_i (u4 - 1))] [] S1 Q
      refine ev_fgm [false, true, false, true, false, true, true] ?_
      exact hQ
    · rw [if_neg c2]
      replace hQ := hQ.2 c2
      refine ev_if_ne 180 dL_law_175 (by decide) (fun h9 => absurd (by decide : ((0 : Int32) = 0)) h9) (fun _ => ?_)
      refine ev_iconst (0) dL_law_178 rfl ?_
      exact ev_ireturn .boolean dL_law_179 rfl rfl hQ
  · replace hQ := hQ.2 c1
    refine ev_aload_n (ev_o 9 b1) dL_law_46 rfl rfl ?_
    refine ev_aload_n (ev_o 11 w2) dL_law_47 rfl rfl ?_
    refine ev_cS ms_L_isAs 7 1300 [ev_o 9 b1, ev_o 11 w2] [] dL_law_48 kw_944 rfl (by decide) (by omega) (Nat.le_of_ble_eq_true rfl) hQ ?_ rfl
    rintro o S2 ⟨v2_, rfl, hQ⟩
    show ev_E g m_L_law 10 (B + 11200) 51 [some (ev_x 0 k0), some (ev_o 9 b1), some (ev_o 11 w2), some (ev_o 25 w3), some (ev_i u4), some (ev_i u5), none] [ev_i (if v2_ = true then 1 else 0)] S2 Q
    by_cases c3 : v2_ = true
    · rw [if_pos c3]
      replace hQ := hQ.1 c3
      refine ev_if_eq 99 dL_law_51 (by decide) (fun h9 => absurd h9 (by decide : ¬ ((1 : Int32) = 0))) (fun _ => ?_)
      refine ev_iload (u5) dL_law_54 rfl ?_
      refine ev_bipush (14) dL_law_56 (by decide) ?_
      refine ev_irem dL_law_58 (by decide) ?_
      refine ev_bipush (9) dL_law_59 (by decide) ?_
      refine ev_icmp_ne 101 dL_law_61 (by decide) (fun c4 => ?_) (fun c4 => ?_)
      · replace hQ := hQ.2 c4
        exact hQ
      · replace hQ := hQ.1 c4
        refine ev_aload_n (ev_o 9 b1) dL_law_64 rfl rfl ?_
        refine ev_aload_n (ev_o 11 w2) dL_law_65 rfl rfl ?_
        refine ev_iload (u5) dL_law_66 rfl ?_
        refine ev_iconst (2) dL_law_68 rfl ?_
        refine ev_irem dL_law_69 (by decide) ?_
        refine ev_cS ms_L_areMoves 6 4200 [ev_o 9 b1, ev_o 11 w2, ev_i (ev_rem u5 2)] [] dL_law_70 kw_1344 rfl (by decide) (by omega) (Nat.le_of_ble_eq_true rfl) hQ ?_ rfl
        rintro o S3 ⟨v3_, rfl, hQ⟩
        show ev_E g m_L_law 10 (B + 7000) 73 [some (ev_x 0 k0), some (ev_o 9 b1), some (ev_o 11 w2), some (ev_o 25 w3), some (ev_i u4), some (ev_i u5), none] [ev_i (if v3_ = true then 1 else 0)] S3 Q
        by_cases c5 : v3_ = true
        · rw [if_pos c5]
          replace hQ := hQ.1 c5
          refine ev_if_eq 99 dL_law_73 (by decide) (fun h9 => absurd h9 (by decide : ¬ ((1 : Int32) = 0))) (fun _ => ?_)
          refine ev_aload_n (ev_o 9 b1) dL_law_76 rfl rfl ?_
          refine ev_aload_n (ev_o 11 w2) dL_law_77 rfl rfl ?_
          refine ev_aload_n (ev_x 0 k0) dL_law_78 rfl rfl ?_
          refine ev_bipush (47) dL_law_79 (by decide) ?_
          refine ev_iload (u5) dL_law_81 rfl ?_
          refine ev_iadd dL_law_83 ?_
          refine ev_aload_n (ev_o 11 w2) dL_law_84 rfl rfl ?_
          refine gn_11_4 dL_law_85 (List.mem_of_getElem? (i := 25) rfl) ?_
          refine ev_iconst (1) dL_law_88 rfl ?_
          refine ev_iadd dL_law_89 ?_
          obtain ⟨h1, hQ⟩ := hQ
          obtain ⟨h2, hQ⟩ := hQ
          obtain ⟨h3, hQ⟩ := hQ
          refine ev_fS ms_L_pick 2 [ev_x 0 k0, ev_i (47 + u5), ev_i ((S3.1 w2 4) + 1)] [ev_o 11 w2, ev_o 9 b1] dL_law_90 kw_936 rfl (by decide) (Nat.le_of_ble_eq_true rfl) (sp_L_pick k0 (47 + u5) ((S3.1 w2 4) + 1) h1 h2 h3) ?_ rfl
          refine ev_cS ms_L_isForetold 8 7000 [ev_o 9 b1, ev_o 11 w2, ev_i (ev_rem ((f_L_cell g k0 (47 + u5)) &&& 65535) ((S3.1 w2 4) + 1))] [] dL_law_93 kw_1368 rfl (by decide) (by omega) (Nat.le_of_ble_eq_true rfl) hQ ?_ rfl
          rintro o S4 ⟨v4_, rfl, hQ⟩
          show ev_E g m_L_law 10 B 96 [some (ev_x 0 k0), some (ev_o 9 b1), some (ev_o 11 w2), some (ev_o 25 w3), some (ev_i u4), some (ev_i u5), none] [ev_i (if v4_ = true then 1 else 0)] S4 Q
          by_cases c6 : v4_ = true
          · rw [if_pos c6]
            replace hQ := hQ.1 c6
            refine ev_if_ne 101 dL_law_96 (by decide) (fun _ => ?_) (fun h9 => absurd h9 (by decide : ¬ ((1 : Int32) = 0)))
            exact hQ
          · rw [if_neg c6]
            replace hQ := hQ.2 c6
            refine ev_if_ne 101 dL_law_96 (by decide) (fun h9 => absurd (by decide : ((0 : Int32) = 0)) h9) (fun _ => ?_)
            refine ev_iconst (0) dL_law_99 rfl ?_
            exact ev_ireturn .boolean dL_law_100 rfl rfl hQ
        · rw [if_neg c5]
          replace hQ := hQ.2 c5
          refine ev_if_eq 99 dL_law_73 (by decide) (fun _ => ?_) (fun h9 => absurd (by decide : ((0 : Int32) = 0)) h9)
          refine ev_iconst (0) dL_law_99 rfl ?_
          exact ev_ireturn .boolean dL_law_100 rfl rfl hQ
    · rw [if_neg c3]
      replace hQ := hQ.2 c3
      refine ev_if_eq 99 dL_law_51 (by decide) (fun _ => ?_) (fun h9 => absurd (by decide : ((0 : Int32) = 0)) h9)
      refine ev_iconst (0) dL_law_99 rfl ?_
      exact ev_ireturn .boolean dL_law_100 rfl rfl hQ
set_option maxHeartbeats 1000000 in
set_option maxRecDepth 100000 in
theorem sg_L_law_195 {g : ev_G} {S : ev_S} {Q : ev_O → ev_S → Prop} {B : Nat} (k0 : Nat) (b1 : Nat) (w3 : Nat) (u5 : Int32) (u6 : Int32) (hQ : (u5 ≤ 0 → (
    ((S.1 (b1 + 93) 1) = 0 → (
      Q (.inl (some (ev_i 1))) S)) ∧
    (¬ ((S.1 (b1 + 93) 1) = 0) → (
      Q (.inl (some (ev_i 0))) S)))) ∧
  (¬ (u5 ≤ 0) → (
    ev_Cv g m_X9_undo 6 1 [ev_o 9 b1] S (fun o S1 => ∃ v1_ : Int32, o = .inl (some (ev_i v1_)) ∧ (
      (v1_ = (u5 + (-1)) → (
        (vp_in u6 44) ∧ (
          ∃ q1_, S1.2.2 w3 u6.toNatClampNeg = some q1_ ∧ (0, q1_) ∈ S1.2.1 ∧ (
            ev_Cv g m_L_isAs 7 1300 [ev_o 9 b1, ev_o 11 q1_] S1 (fun o S2 => ∃ v2_ : Bool, o = .inl (some (ev_i (if v2_ = true then 1 else 0))) ∧ (
              (v2_ = true → (
                ev_E g m_L_law 10 B 195 [none, some (ev_o 9 b1), none, some (ev_o 25 w3), none, some (ev_i (u5 + (-1))), some (ev_i (u6 + (-1)))] [] S2 Q)) ∧
              (¬ (v2_ = true) → (
                Q (.inl (some (ev_i 0))) S2)))))))) ∧
      (¬ (v1_ = (u5 + (-1))) → (
        Q (.inl (some (ev_i 0))) S1))))))) : ev_E g m_L_law 10 (B + 1301) 195 [none, some (ev_o 9 b1), none, some (ev_o 25 w3), none, some (ev_i u5), some (ev_i u6)] [] S Q := by
  refine ev_iload (u5) dL_law_195 rfl ?_
  refine ev_if_le 231 dL_law_197 (by decide) (fun c1 => ?_) (fun c1 => ?_)
  · replace hQ := hQ.1 c1
    refine ev_aload_n (ev_o 9 b1) dL_law_231 rfl rfl ?_
    refine ev_fV mv_X9_undoCount 2 9 [] [] dL_law_232 kw_636 rfl (by decide) rfl (by decide) (Nat.le_of_ble_eq_true rfl) (sp_X9_undoCount b1) ?_ rfl
    refine ev_if_ne 242 dL_law_235 (by decide) (fun c2 => ?_) (fun c2 => ?_)
    · replace hQ := hQ.2 c2
      refine ev_iconst (0) dL_law_242 rfl ?_
      exact ev_ireturn .boolean dL_law_243 rfl rfl hQ
    · replace hQ := hQ.1 c2
      refine ev_iconst (1) dL_law_238 rfl ?_
      refine ev_goto 243 dL_law_239 (by decide) ?_
      exact ev_ireturn .boolean dL_law_243 rfl rfl hQ
  · replace hQ := hQ.2 c1
    refine ev_iinc u5 (-1) dL_law_200 rfl (by decide) (ev_hw rfl) ?_
    show ev_E g m_L_law 10 (B + 1301) 203 [none, some (ev_o 9 b1), none, some (ev_o 25 w3), none, some (ev_i (u5 + (-1))), some (ev_i u6)] [] S Q
    refine ev_aload_n (ev_o 9 b1) dL_law_203 rfl rfl ?_
    refine ev_cV mv_X9_undo 6 1 9 [] [] dL_law_204 kw_644 rfl (by decide) rfl (by decide) (by omega) (Nat.le_of_ble_eq_true rfl) hQ ?_ rfl
    rintro o S1 ⟨v1_, rfl, hQ⟩
    show ev_E g m_L_law 10 (B + 1300) 207 [none, some (ev_o 9 b1), none, some (ev_o 25 w3), none, some (ev_i (u5 + (-1))), some (ev_i u6)] [ev_i v1_] S1 Q
    refine ev_iload ((u5 + (-1))) dL_law_207 rfl ?_
    refine ev_icmp_ne 223 dL_law_209 (by decide) (fun c3 => ?_) (fun c3 => ?_)
    · replace hQ := hQ.2 c3
      refine ev_iconst (0) dL_law_223 rfl ?_
      exact ev_ireturn .boolean dL_law_224 rfl rfl hQ
    · replace hQ := hQ.1 c3
      refine ev_aload_n (ev_o 9 b1) dL_law_212 rfl rfl ?_
      refine ev_aload_n (ev_o 25 w3) dL_law_213 rfl rfl ?_
      refine ev_iload (u6) dL_law_214 rfl ?_
      obtain ⟨h1, hQ⟩ := hQ
      obtain ⟨q1_, eq1_, mq1_, hQ⟩ := hQ
      refine ev_aalO q1_ dL_law_216 h1 eq1_ mq1_ ?_
      refine ev_cS ms_L_isAs 7 1300 [ev_o 9 b1, ev_o 11 q1_] [] dL_law_217 kw_944 rfl (by decide) (by omega) (Nat.le_of_ble_eq_true rfl) hQ ?_ rfl
      rintro o S2 ⟨v2_, rfl, hQ⟩
      show ev_E g m_L_law 10 B 220 [none, some (ev_o 9 b1), none, some (ev_o 25 w3), none, some (ev_i (u5 + (-1))), some (ev_i u6)] [ev_i (if v2_ = true then 1 else 0)] S2 Q
      by_cases c4 : v2_ = true
      · rw [if_pos c4]
        replace hQ := hQ.1 c4
        refine ev_if_ne 225 dL_law_220 (by decide) (fun _ => ?_) (fun h9 => absurd h9 (by decide : ¬ ((1 : Int32) = 0)))
        refine ev_iinc u6 (-1) dL_law_225 rfl (by decide) (ev_hw rfl) ?_
        show ev_E g m_L_law 10 B 228 [none, some (ev_o 9 b1), none, some (ev_o 25 w3), none, some (ev_i (u5 + (-1))), some (ev_i (u6 + (-1)))] [] S2 Q
        refine ev_goto 195 dL_law_228 (by decide) ?_
        exact hQ
      · rw [if_neg c4]
        replace hQ := hQ.2 c4
        refine ev_if_ne 225 dL_law_220 (by decide) (fun h9 => absurd (by decide : ((0 : Int32) = 0)) h9) (fun _ => ?_)
        refine ev_iconst (0) dL_law_223 rfl ?_
        exact ev_ireturn .boolean dL_law_224 rfl rfl hQ
set_option maxHeartbeats 1000000 in
set_option maxRecDepth 100000 in
theorem sg_L_law_101 {g : ev_G} {S : ev_S} {Q : ev_O → ev_S → Prop} {B : Nat} (k0 : Nat) (b1 : Nat) (w2 : Nat) (w3 : Nat) (u4 : Int32) (u5 : Int32) (hQ : ev_Cv g m_X11_copy 2 360 [ev_o 11 w2] S (fun o S1 => ∃ v1_ : Nat, o = .inl (some (ev_o 11 v1_)) ∧ (
    ev_Cv g m_L_acts 8 100 [ev_o 9 b1, ev_o 11 v1_, ev_x 0 k0, ev_i (90 + (4 * u5))] S1 (fun o S2 => ∃ v2_ : Bool, o = .inl (some (ev_i (if v2_ = true then 1 else 0))) ∧ (
      (v2_ = true → (
        ((S2.1 v1_ 33) = 0 → (
          ev_E g m_L_law 10 B 137 [some (ev_x 0 k0), some (ev_o 9 b1), some (ev_o 11 w2), some (ev_o 25 w3), some (ev_i u4), some (ev_i u5), some (ev_o 11 v1_)] [] S2 Q)) ∧
        (¬ ((S2.1 v1_ 33) = 0) → (
          ev_E g m_L_law 10 B 39 [some (ev_x 0 k0), some (ev_o 9 b1), some (ev_o 11 w2), some (ev_o 25 w3), some (ev_i u4), some (ev_i (u5 + 1)), none] [] S2 Q)))) ∧
      (¬ (v2_ = true) → (
        Q (.inl (some (ev_i 0))) S2))))))) : ev_E g m_L_law 10 (B + 460) 101 [some (ev_x 0 k0), some (ev_o 9 b1), some (ev_o 11 w2), some (ev_o 25 w3), some (ev_i u4), some (ev_i u5), none] [] S Q := by
  refine ev_aload_n (ev_o 11 w2) dL_law_101 rfl rfl ?_
  refine ev_cV mv_X11_copy 2 360 11 [] [] dL_law_102 kw_926 rfl (by decide) rfl (by decide) (by omega) (Nat.le_of_ble_eq_true rfl) hQ ?_ rfl
  rintro o S1 ⟨v1_, rfl, hQ⟩
  show ev_E g m_L_law 10 (B + 100) 105 [some (ev_x 0 k0), some (ev_o 9 b1), some (ev_o 11 w2), some (ev_o 25 w3), some (ev_i u4), some (ev_i u5), none] [ev_o 11 v1_] S1 Q
  refine ev_astore dL_law_105 rfl (Nat.le_of_ble_eq_true rfl) (ev_hw rfl) ?_
  show ev_E g m_L_law 10 (B + 100) 107 [some (ev_x 0 k0), some (ev_o 9 b1), some (ev_o 11 w2), some (ev_o 25 w3), some (ev_i u4), some (ev_i u5), some (ev_o 11 v1_)] [] S1 Q
  refine ev_aload_n (ev_o 9 b1) dL_law_107 rfl rfl ?_
  refine ev_aload (ev_o 11 v1_) dL_law_108 rfl rfl ?_
  refine ev_aload_n (ev_x 0 k0) dL_law_110 rfl rfl ?_
  refine ev_bipush (90) dL_law_111 (by decide) ?_
  refine ev_iconst (4) dL_law_113 rfl ?_
  refine ev_iload (u5) dL_law_114 rfl ?_
  refine ev_imul dL_law_116 ?_
  refine ev_iadd dL_law_117 ?_
  refine ev_cS ms_L_acts 8 100 [ev_o 9 b1, ev_o 11 v1_, ev_x 0 k0, ev_i (90 + (4 * u5))] [] dL_law_118 kw_1512 rfl (by decide) (by omega) (Nat.le_of_ble_eq_true rfl) hQ ?_ rfl
  rintro o S2 ⟨v2_, rfl, hQ⟩
  show ev_E g m_L_law 10 B 121 [some (ev_x 0 k0), some (ev_o 9 b1), some (ev_o 11 w2), some (ev_o 25 w3), some (ev_i u4), some (ev_i u5), some (ev_o 11 v1_)] [ev_i (if v2_ = true then 1 else 0)] S2 Q
  by_cases c1 : v2_ = true
  · rw [if_pos c1]
    replace hQ := hQ.1 c1
    refine ev_if_ne 126 dL_law_121 (by decide) (fun _ => ?_) (fun h9 => absurd h9 (by decide : ¬ ((1 : Int32) = 0)))
    refine ev_aload (ev_o 11 v1_) dL_law_126 rfl rfl ?_
    refine gn_11_33 dL_law_128 (List.mem_of_getElem? (i := 46) rfl) ?_
    refine ev_if_eq 137 dL_law_131 (by decide) (fun c2 => ?_) (fun c2 => ?_)
    · replace hQ := hQ.1 c2
      exact hQ
    · replace hQ := hQ.2 c2
      refine ev_goto 164 dL_law_134 (by decide) ?_
      refine ev_iinc u5 (1) dL_law_164 rfl (by decide) (ev_hw rfl) ?_
      show ev_E g m_L_law 10 B 167 [some (ev_x 0 k0), some (ev_o 9 b1), some (ev_o 11 w2), some (ev_o 25 w3), some (ev_i u4), some (ev_i (u5 + 1)), some (ev_o 11 v1_)] [] S2 Q
      refine ev_goto 39 dL_law_167 (by decide) ?_
      refine ev_fgm [true, true, true, true, true, true, false] ?_
      exact hQ
  · rw [if_neg c1]
    replace hQ := hQ.2 c1
    refine ev_if_ne 126 dL_law_121 (by decide) (fun h9 => absurd (by decide : ((0 : Int32) = 0)) h9) (fun _ => ?_)
    refine ev_iconst (0) dL_law_124 rfl ?_
    exact ev_ireturn .boolean dL_law_125 rfl rfl hQ
set_option maxHeartbeats 1000000 in
set_option maxRecDepth 100000 in
theorem sg_L_law_137 {g : ev_G} {S : ev_S} {Q : ev_O → ev_S → Prop} {B : Nat} (k0 : Nat) (b1 : Nat) (w2 : Nat) (w3 : Nat) (u4 : Int32) (u5 : Int32) (w6 : Nat) (hQ : (vp_in u4 44) ∧ (
    ∀ S1 : ev_S, S1 = (ev_uo S w3 u4.toNatClampNeg w2) → (
      ((S1.1 (b1 + 93) 1) = (ev_min 8 (u4 + 1)) → (
        ev_E g m_L_law 10 B 39 [some (ev_x 0 k0), some (ev_o 9 b1), some (ev_o 11 w6), some (ev_o 25 w3), some (ev_i (u4 + 1)), some (ev_i (u5 + 1)), none] [] S1 Q)) ∧
      (¬ ((S1.1 (b1 + 93) 1) = (ev_min 8 (u4 + 1))) → (
        Q (.inl (some (ev_i 0))) S1))))) : ev_E g m_L_law 10 B 137 [some (ev_x 0 k0), some (ev_o 9 b1), some (ev_o 11 w2), some (ev_o 25 w3), some (ev_i u4), some (ev_i u5), some (ev_o 11 w6)] [] S Q := by
  refine ev_aload_n (ev_o 25 w3) dL_law_137 rfl rfl ?_
  refine ev_iload (u4) dL_law_138 rfl ?_
  refine ev_aload_n (ev_o 11 w2) dL_law_140 rfl rfl ?_
  obtain ⟨h1, hQ⟩ := hQ
  refine ev_aastO dL_law_141 h1 ?_
  refine ev_sub hQ (fun S1 hS1 hQ => ?_)
  refine ev_E.goal (pc' := 142) (L' := [some (ev_x 0 k0), some (ev_o 9 b1), some (ev_o 11 w2), some (ev_o 25 w3), some (ev_i u4), some (ev_i u5), some (ev_o 11 w6)]) (K' := []) (S' := S1) ?_ rfl rfl rfl hS1
  refine ev_iinc u4 (1) dL_law_142 rfl (by decide) (ev_hw rfl) ?_
  show ev_E g m_L_law 10 B 145 [some (ev_x 0 k0), some (ev_o 9 b1), some (ev_o 11 w2), some (ev_o 25 w3), some (ev_i (u4 + 1)), some (ev_i u5), some (ev_o 11 w6)] [] S1 Q
  refine ev_aload (ev_o 11 w6) dL_law_145 rfl rfl ?_
  refine ev_astore_n dL_law_147 rfl (Nat.le_of_ble_eq_true rfl) (ev_hw rfl) ?_
  show ev_E g m_L_law 10 B 148 [some (ev_x 0 k0), some (ev_o 9 b1), some (ev_o 11 w6), some (ev_o 25 w3), some (ev_i (u4 + 1)), some (ev_i u5), some (ev_o 11 w6)] [] S1 Q
  refine ev_aload_n (ev_o 9 b1) dL_law_148 rfl rfl ?_
  refine ev_fV mv_X9_undoCount 2 9 [] [] dL_law_149 kw_636 rfl (by decide) rfl (by decide) (Nat.le_of_ble_eq_true rfl) (sp_X9_undoCount b1) ?_ rfl
  refine ev_bipush (8) dL_law_152 (by decide) ?_
  refine ev_iload ((u4 + 1)) dL_law_154 rfl ?_
  refine ev_mathMin dL_law_156 kw_1939 kw_424 kw_31 kw_425 (Nat.le_of_ble_eq_true rfl) ?_
  refine ev_icmp_eq 164 dL_law_159 (by decide) (fun c1 => ?_) (fun c1 => ?_)
  · replace hQ := hQ.1 c1
    refine ev_iinc u5 (1) dL_law_164 rfl (by decide) (ev_hw rfl) ?_
    show ev_E g m_L_law 10 B 167 [some (ev_x 0 k0), some (ev_o 9 b1), some (ev_o 11 w6), some (ev_o 25 w3), some (ev_i (u4 + 1)), some (ev_i (u5 + 1)), some (ev_o 11 w6)] [] S1 Q
    refine ev_goto 39 dL_law_167 (by decide) ?_
    refine ev_fgm [true, true, true, true, true, true, false] ?_
    exact hQ
  · replace hQ := hQ.2 c1
    refine ev_iconst (0) dL_law_162 rfl ?_
    exact ev_ireturn .boolean dL_law_163 rfl rfl hQ
