set_option maxHeartbeats 4000000 in
set_option maxRecDepth 100000 in
theorem sg_X11_fastest_12 {g : ev_G} {S : ev_S} {Q : ev_O → ev_S → Prop} {B : Nat} (a : Nat) (u1 : Int32) (u2 : Int32) (u3 : Int32) (u4 : Int32) (hQ : (u4 < 0 → (
    Q (.inl (some (ev_i u2))) S)) ∧
  (¬ (u4 < 0) → (
    ev_Cv g m_X11_copy 2 360 [ev_o 11 a] S (fun o S1 => ∃ v1_ : Nat, o = .inl (some (ev_o 11 v1_)) ∧ (
      ev_Cv g m_X11_posts 1 0 [ev_o 11 v1_, ev_i u1, ev_i u4, ev_i 0, ev_i 1, ev_i 0, ev_i 0] S1 (fun o S2 => ∃ v2_ : Int32, o = .inl (some (ev_i v2_)) ∧ (
        ∀ S3 : ev_S, S3 = (ev_up S2 v1_ 32 v2_) → (
          ev_Cv g m_X11_arrival 6 360 [ev_o 11 v1_, ev_i v2_] S3 (fun o S4 => ∃ v3_ : Int32, o = .inl (some (ev_i v3_)) ∧ (
            (v3_ < 0 → (
              ev_E g m_X11_fastest 7 B 12 [some (ev_o 11 a), some (ev_i u1), some (ev_i u2), some (ev_i u3), some (ev_i (u4 + (-1))), none, none] [] S4 Q)) ∧
            (¬ (v3_ < 0) → (
              (u2 < 0 → (
                ev_E g m_X11_fastest 7 B 12 [some (ev_o 11 a), some (ev_i u1), some (ev_i u4), some (ev_i v3_), some (ev_i (u4 + (-1))), none, none] [] S4 Q)) ∧
              (¬ (u2 < 0) → (
                (v3_ ≤ u3 → (
                  ev_E g m_X11_fastest 7 B 12 [some (ev_o 11 a), some (ev_i u1), some (ev_i u4), some (ev_i v3_), some (ev_i (u4 + (-1))), none, none] [] S4 Q)) ∧
                (¬ (v3_ ≤ u3) → (
                  ev_E g m_X11_fastest 7 B 12 [some (ev_o 11 a), some (ev_i u1), some (ev_i u2), some (ev_i u3), some (ev_i (u4 + (-1))), none, none] [] S4 Q)))))))))))))))) : ev_E g m_X11_fastest 7 (B + 720) 12 [some (ev_o 11 a), some (ev_i u1), some (ev_i u2), some (ev_i u3), some (ev_i u4), none, none] [] S Q := by
  refine ev_iload (u4) dX11_fastest_12 rfl ?_
  refine ev_if_lt 82 dX11_fastest_14 (by decide) (fun c1 => ?_) (fun c1 => ?_)
  · replace hQ := hQ.1 c1
    refine ev_iload_n (u2) dX11_fastest_82 rfl ?_
    exact ev_ireturn .int dX11_fastest_83 rfl rfl hQ
  · replace hQ := hQ.2 c1
    refine ev_aload_n (ev_o 11 a) dX11_fastest_17 rfl rfl ?_
    refine ev_cV mv_X11_copy 2 360 11 [] [] dX11_fastest_18 kw_1493 rfl (by decide) rfl (by decide) (by omega) (Nat.le_of_ble_eq_true rfl) hQ ?_ rfl
    rintro o S1 ⟨v1_, rfl, hQ⟩
    show ev_E g m_X11_fastest 7 (B + 360) 21 [some (ev_o 11 a), some (ev_i u1), some (ev_i u2), some (ev_i u3), some (ev_i u4), none, none] [ev_o 11 v1_] S1 Q
    refine ev_astore dX11_fastest_21 rfl (Nat.le_of_ble_eq_true rfl) (ev_hw rfl) ?_
    show ev_E g m_X11_fastest 7 (B + 360) 23 [some (ev_o 11 a), some (ev_i u1), some (ev_i u2), some (ev_i u3), some (ev_i u4), some (ev_o 11 v1_), none] [] S1 Q
    refine ev_aload (ev_o 11 v1_) dX11_fastest_23 rfl rfl ?_
    refine ev_aload (ev_o 11 v1_) dX11_fastest_25 rfl rfl ?_
    refine ev_iload_n (u1) dX11_fastest_27 rfl ?_
    refine ev_iload (u4) dX11_fastest_28 rfl ?_
    refine ev_iconst (0) dX11_fastest_30 rfl ?_
    refine ev_iconst (1) dX11_fastest_31 rfl ?_
    refine ev_iconst (0) dX11_fastest_32 rfl ?_
    refine ev_iconst (0) dX11_fastest_33 rfl ?_
    refine ev_cV mv_X11_posts 1 0 11 [ev_i u1, ev_i u4, ev_i 0, ev_i 1, ev_i 0, ev_i 0] [ev_o 11 v1_] dX11_fastest_34 kw_1507 rfl (by decide) rfl (by decide) (by omega) (Nat.le_of_ble_eq_true rfl) hQ ?_ rfl
    rintro o S2 ⟨v2_, rfl, hQ⟩
    show ev_E g m_X11_fastest 7 (B + 360) 37 [some (ev_o 11 a), some (ev_i u1), some (ev_i u2), some (ev_i u3), some (ev_i u4), some (ev_o 11 v1_), none] [ev_i v2_, ev_o 11 v1_] S2 Q
    refine pf_11_32 dX11_fastest_37 kw_854 ?_
    refine ev_sub hQ (fun S3 hS3 hQ => ?_)
    refine ev_E.goal (pc' := 40) (L' := [some (ev_o 11 a), some (ev_i u1), some (ev_i u2), some (ev_i u3), some (ev_i u4), some (ev_o 11 v1_), none]) (K' := []) (S' := S3) ?_ rfl rfl rfl hS3
    refine ev_aload (ev_o 11 v1_) dX11_fastest_40 rfl rfl ?_
    refine ev_aload (ev_o 11 v1_) dX11_fastest_42 rfl rfl ?_
    refine gf_11_32 dX11_fastest_44 kw_854 ?_
    refine ev_ke (j_rs hS3) ?_
    refine ev_cV mv_X11_arrival 6 360 11 [ev_i v2_] [] dX11_fastest_47 kw_1511 rfl (by decide) rfl (by decide) (by omega) (Nat.le_of_ble_eq_true rfl) hQ ?_ rfl
    rintro o S4 ⟨v3_, rfl, hQ⟩
    show ev_E g m_X11_fastest 7 B 50 [some (ev_o 11 a), some (ev_i u1), some (ev_i u2), some (ev_i u3), some (ev_i u4), some (ev_o 11 v1_), none] [ev_i v3_] S4 Q
    refine ev_istore dX11_fastest_50 (Nat.le_of_ble_eq_true rfl) (ev_hw rfl) ?_
    show ev_E g m_X11_fastest 7 B 52 [some (ev_o 11 a), some (ev_i u1), some (ev_i u2), some (ev_i u3), some (ev_i u4), some (ev_o 11 v1_), some (ev_i v3_)] [] S4 Q
    refine ev_iload (v3_) dX11_fastest_52 rfl ?_
    refine ev_if_lt 76 dX11_fastest_54 (by decide) (fun c2 => ?_) (fun c2 => ?_)
    · replace hQ := hQ.1 c2
      refine ev_iinc u4 (-1) dX11_fastest_76 rfl (by decide) (ev_hw rfl) ?_
      show ev_E g m_X11_fastest 7 B 79 [some (ev_o 11 a), some (ev_i u1), some (ev_i u2), some (ev_i u3), some (ev_i (u4 + (-1))), some (ev_o 11 v1_), some (ev_i v3_)] [] S4 Q
      refine ev_goto 12 dX11_fastest_79 (by decide) ?_
      refine ev_fgm [true, true, true, true, true, false, false] ?_
      exact hQ
    · replace hQ := hQ.2 c2
      refine ev_iload_n (u2) dX11_fastest_57 rfl ?_
      refine ev_if_lt 70 dX11_fastest_58 (by decide) (fun c3 => ?_) (fun c3 => ?_)
      · replace hQ := hQ.1 c3
        refine ev_iload (u4) dX11_fastest_70 rfl ?_
        refine ev_istore_n dX11_fastest_72 (Nat.le_of_ble_eq_true rfl) (ev_hw rfl) ?_
        show ev_E g m_X11_fastest 7 B 73 [some (ev_o 11 a), some (ev_i u1), some (ev_i u4), some (ev_i u3), some (ev_i u4), some (ev_o 11 v1_), some (ev_i v3_)] [] S4 Q
        refine ev_iload (v3_) dX11_fastest_73 rfl ?_
        refine ev_istore_n dX11_fastest_75 (Nat.le_of_ble_eq_true rfl) (ev_hw rfl) ?_
        show ev_E g m_X11_fastest 7 B 76 [some (ev_o 11 a), some (ev_i u1), some (ev_i u4), some (ev_i v3_), some (ev_i u4), some (ev_o 11 v1_), some (ev_i v3_)] [] S4 Q
        refine ev_iinc u4 (-1) dX11_fastest_76 rfl (by decide) (ev_hw rfl) ?_
        show ev_E g m_X11_fastest 7 B 79 [some (ev_o 11 a), some (ev_i u1), some (ev_i u4), some (ev_i v3_), some (ev_i (u4 + (-1))), some (ev_o 11 v1_), some (ev_i v3_)] [] S4 Q
        refine ev_goto 12 dX11_fastest_79 (by decide) ?_
        refine ev_fgm [true, true, true, true, true, false, false] ?_
        exact hQ
      · replace hQ := hQ.2 c3
        refine ev_iload (v3_) dX11_fastest_61 rfl ?_
        refine ev_iload_n (u3) dX11_fastest_63 rfl ?_
        refine ev_icmp_le 70 dX11_fastest_64 (by decide) (fun c4 => ?_) (fun c4 => ?_)
        · replace hQ := hQ.1 c4
          refine ev_iload (u4) dX11_fastest_70 rfl ?_
          refine ev_istore_n dX11_fastest_72 (Nat.le_of_ble_eq_true rfl) (ev_hw rfl) ?_
          show ev_E g m_X11_fastest 7 B 73 [some (ev_o 11 a), some (ev_i u1), some (ev_i u4), some (ev_i u3), some (ev_i u4), some (ev_o 11 v1_), some (ev_i v3_)] [] S4 Q
          refine ev_iload (v3_) dX11_fastest_73 rfl ?_
          refine ev_istore_n dX11_fastest_75 (Nat.le_of_ble_eq_true rfl) (ev_hw rfl) ?_
          show ev_E g m_X11_fastest 7 B 76 [some (ev_o 11 a), some (ev_i u1), some (ev_i u4), some (ev_i v3_), some (ev_i u4), some (ev_o 11 v1_), some (ev_i v3_)] [] S4 Q
          refine ev_iinc u4 (-1) dX11_fastest_76 rfl (by decide) (ev_hw rfl) ?_
          show ev_E g m_X11_fastest 7 B 79 [some (ev_o 11 a), some (ev_i u1), some (ev_i u4), some (ev_i v3_), some (ev_i (u4 + (-1))), some (ev_o 11 v1_), some (ev_i v3_)] [] S4 Q
          refine ev_goto 12 dX11_fastest_79 (by decide) ?_
          refine ev_fgm [true, true, true, true, true, false, false] ?_
          exact hQ
        · replace hQ := hQ.2 c4
          refine ev_goto 76 dX11_fastest_67 (by decide) ?_
          refine ev_iinc u4 (-1) dX11_fastest_76 rfl (by decide) (ev_hw rfl) ?_
          show ev_E g m_X11_fastest 7 B 79 [some (ev_o 11 a), some (ev_i u1), some (ev_i u2), some (ev_i u3), some (ev_i (u4 + (-1))), some (ev_o 11 v1_), some (ev_i v3_)] [] S4 Q
          refine ev_goto 12 dX11_fastest_79 (by decide) ?_
          refine ev_fgm [true, true, true, true, true, false, false] ?_
          exact hQ
set_option maxHeartbeats 4000000 in
set_option maxRecDepth 100000 in
theorem sg_Jxf58ca_isNaN_12338_0 {g : ev_G} {S : ev_S} {Q : ev_O → ev_S → Prop} (x0 : UInt32) (hQ : ((j_fcmpl x0 x0) = 0 → (
    Q (.inl (some (ev_i 0))) S)) ∧
  (¬ ((j_fcmpl x0 x0) = 0) → (
    Q (.inl (some (ev_i 1))) S))) : ev_Cv g m_Jxf58ca_isNaN_12338 1 0 [ev_f x0] S Q := by
  refine ev_enterF (by decide +kernel) rfl rfl rfl (Nat.le_of_ble_eq_true rfl) ?_
  show ev_E g m_Jxf58ca_isNaN_12338 1 0 0 [some (ev_f x0)] [] S Q
  refine ev_fload_n (x0) dJxf58ca_isNaN_12338_0 rfl ?_
  refine ev_fload_n (x0) dJxf58ca_isNaN_12338_1 rfl ?_
  refine ev_fcmpl dJxf58ca_isNaN_12338_2 ?_
  refine ev_if_eq 10 dJxf58ca_isNaN_12338_3 (by decide) (fun c1 => ?_) (fun c1 => ?_)
  · replace hQ := hQ.1 c1
    refine ev_iconst (0) dJxf58ca_isNaN_12338_10 rfl ?_
    exact ev_ireturn .boolean dJxf58ca_isNaN_12338_11 rfl rfl hQ
  · replace hQ := hQ.2 c1
    refine ev_iconst (1) dJxf58ca_isNaN_12338_6 rfl ?_
    refine ev_goto 11 dJxf58ca_isNaN_12338_7 (by decide) ?_
    exact ev_ireturn .boolean dJxf58ca_isNaN_12338_11 rfl rfl hQ
set_option maxHeartbeats 4000000 in
set_option maxRecDepth 100000 in
theorem sp_Jxf58ca_isNaN_12338 {g : ev_G} {S : ev_S} (x0 : UInt32)  : ev_Fn g m_Jxf58ca_isNaN_12338 1 [ev_f x0] S (some (ev_i (if (j_fcmpl x0 x0) = 0 then 0 else 1))) S := by
  intro Q hQ
  refine sg_Jxf58ca_isNaN_12338_0 x0 ?_
  refine ⟨fun c1 => ?_, fun c1 => ?_⟩
  · rw [if_pos c1] at hQ
    exact hQ
  · rw [if_neg c1] at hQ
    exact hQ
set_option maxHeartbeats 4000000 in
set_option maxRecDepth 100000 in
theorem sg_Jxf58ca_floatToIntBits_5c35a_0 {g : ev_G} {S : ev_S} {Q : ev_O → ev_S → Prop} (x0 : UInt32) (hQ : ((j_fcmpl x0 x0) = 0 → (
    Q (.inl (some (ev_i x0.toInt32))) S)) ∧
  (¬ ((j_fcmpl x0 x0) = 0) → (
    Q (.inl (some (ev_i 2143289344))) S))) : ev_Cv g m_Jxf58ca_floatToIntBits_5c35a 2 0 [ev_f x0] S Q := by
  refine ev_enterF (by decide +kernel) rfl rfl rfl (Nat.le_of_ble_eq_true rfl) ?_
  show ev_E g m_Jxf58ca_floatToIntBits_5c35a 2 0 0 [some (ev_f x0)] [] S Q
  refine ev_fload_n (x0) dJxf58ca_floatToIntBits_5c35a_0 rfl ?_
  refine ev_fS ms_Jxf58ca_isNaN_12338 1 [ev_f x0] [] dJxf58ca_floatToIntBits_5c35a_1 kw_1337 rfl (by decide) (Nat.le_of_ble_eq_true rfl) (sp_Jxf58ca_isNaN_12338 x0) ?_ rfl
  by_cases c1 : (j_fcmpl x0 x0) = 0
  · rw [if_pos c1]
    replace hQ := hQ.1 c1
    refine ev_if_ne 12 dJxf58ca_floatToIntBits_5c35a_4 (by decide) (fun h9 => absurd (by decide : ((0 : Int32) = 0)) h9) (fun _ => ?_)
    refine ev_fload_n (x0) dJxf58ca_floatToIntBits_5c35a_7 rfl ?_
    refine ev_f2raw dJxf58ca_floatToIntBits_5c35a_8 kw_1340 kw_1342 kw_1341 kw_47 (Nat.le_of_ble_eq_true rfl) ?_
    exact ev_ireturn .int dJxf58ca_floatToIntBits_5c35a_11 rfl rfl hQ
  · rw [if_neg c1]
    replace hQ := hQ.2 c1
    refine ev_if_ne 12 dJxf58ca_floatToIntBits_5c35a_4 (by decide) (fun _ => ?_) (fun h9 => absurd h9 (by decide : ¬ ((1 : Int32) = 0)))
    refine ev_ldci (2143289344) dJxf58ca_floatToIntBits_5c35a_12 kw_1343 ?_
    exact ev_ireturn .int dJxf58ca_floatToIntBits_5c35a_14 rfl rfl hQ
