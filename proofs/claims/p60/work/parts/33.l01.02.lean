set_option maxHeartbeats 4000000 in
set_option maxRecDepth 100000 in
theorem sg_X11_awaited_2 {g : ev_G} {S : ev_S} {Q : ev_O → ev_S → Prop} (a : Nat) (u1 : Int32) (u2 : Int32) (hQ : ((S.1 a 4) ≤ u2 → (
    Q (.inl (some (ev_i (-1)))) S)) ∧
  (¬ ((S.1 a 4) ≤ u2) → (
    (vp_in u2 81) ∧ (
      ((S.1 (a + 19) u2.toNatClampNeg) = u1 → (
        ev_E g m_X11_awaited 1 0 2 [some (ev_o 11 a), some (ev_i u1), some (ev_i (u2 + 1))] [] S Q)) ∧
      (¬ ((S.1 (a + 19) u2.toNatClampNeg) = u1) → (
        (2 ≤ (S.1 (a + 24) u2.toNatClampNeg) → (
          ev_E g m_X11_awaited 1 0 2 [some (ev_o 11 a), some (ev_i u1), some (ev_i (u2 + 1))] [] S Q)) ∧
        (¬ (2 ≤ (S.1 (a + 24) u2.toNatClampNeg)) → (
          (vp_in u1 2) ∧ (
            ((S.1 (a + 21) u2.toNatClampNeg) = ((S.1 (a_bd (a + 1) u1) 6) + 1) → (
              Q (.inl (some (ev_i u2))) S)) ∧
            (¬ ((S.1 (a + 21) u2.toNatClampNeg) = ((S.1 (a_bd (a + 1) u1) 6) + 1)) → (
              ev_E g m_X11_awaited 1 0 2 [some (ev_o 11 a), some (ev_i u1), some (ev_i (u2 + 1))] [] S Q))))))))))) : ev_E g m_X11_awaited 1 0 2 [some (ev_o 11 a), some (ev_i u1), some (ev_i u2)] [] S Q := by
  refine ev_iload_n (u2) dX11_awaited_2 rfl ?_
  refine ev_aload_n (ev_o 11 a) dX11_awaited_3 rfl rfl ?_
  refine gf_11_4 dX11_awaited_4 kw_805 ?_
  refine ev_icmp_ge 58 dX11_awaited_7 (by decide) (fun c1 => ?_) (fun c1 => ?_)
  · replace hQ := hQ.1 c1
    refine ev_iconst (-1) dX11_awaited_58 rfl ?_
    exact ev_ireturn .int dX11_awaited_59 rfl rfl hQ
  · replace hQ := hQ.2 c1
    refine ev_aload_n (ev_o 11 a) dX11_awaited_10 rfl rfl ?_
    refine gf_11_15 dX11_awaited_11 kw_826 ?_
    refine ev_iload_n (u2) dX11_awaited_14 rfl ?_
    obtain ⟨h1, hQ⟩ := hQ
    refine ev_iaload dX11_awaited_15 h1 ?_
    refine ev_iload_n (u1) dX11_awaited_16 rfl ?_
    refine ev_icmp_eq 52 dX11_awaited_17 (by decide) (fun c2 => ?_) (fun c2 => ?_)
    · replace hQ := hQ.1 c2
      refine ev_iinc u2 (1) dX11_awaited_52 rfl (by decide) (ev_hw rfl) ?_
      show ev_E g m_X11_awaited 1 0 55 [some (ev_o 11 a), some (ev_i u1), some (ev_i (u2 + 1))] [] S Q
      refine ev_goto 2 dX11_awaited_55 (by decide) ?_
      exact hQ
    · replace hQ := hQ.2 c2
      refine ev_aload_n (ev_o 11 a) dX11_awaited_20 rfl rfl ?_
      refine gf_11_20 dX11_awaited_21 kw_835 ?_
      refine ev_iload_n (u2) dX11_awaited_24 rfl ?_
      refine ev_iaload dX11_awaited_25 h1 ?_
      refine ev_iconst (2) dX11_awaited_26 rfl ?_
      refine ev_icmp_ge 52 dX11_awaited_27 (by decide) (fun c3 => ?_) (fun c3 => ?_)
      · replace hQ := hQ.1 c3
        refine ev_iinc u2 (1) dX11_awaited_52 rfl (by decide) (ev_hw rfl) ?_
        show ev_E g m_X11_awaited 1 0 55 [some (ev_o 11 a), some (ev_i u1), some (ev_i (u2 + 1))] [] S Q
        refine ev_goto 2 dX11_awaited_55 (by decide) ?_
        exact hQ
      · replace hQ := hQ.2 c3
        refine ev_aload_n (ev_o 11 a) dX11_awaited_30 rfl rfl ?_
        refine gf_11_17 dX11_awaited_31 kw_829 ?_
        refine ev_iload_n (u2) dX11_awaited_34 rfl ?_
        refine ev_iaload dX11_awaited_35 h1 ?_
        refine ev_aload_n (ev_o 11 a) dX11_awaited_36 rfl rfl ?_
        refine gf_11_11 dX11_awaited_37 kw_818 ?_
        refine ev_iload_n (u1) dX11_awaited_40 rfl ?_
        obtain ⟨h2, hQ⟩ := hQ
        refine ev_aalB dX11_awaited_41 h2 ?_
        show ev_E g m_X11_awaited 1 0 42 [some (ev_o 11 a), some (ev_i u1), some (ev_i u2)] [ev_o 10 (a_bd (a + 1) u1), ev_i (S.1 (a + 21) u2.toNatClampNeg)] S Q
        refine gn_10_6 dX11_awaited_42 (List.mem_of_getElem? (i := 10) rfl) ?_
        refine ev_iconst (1) dX11_awaited_45 rfl ?_
        refine ev_iadd dX11_awaited_46 ?_
        refine ev_icmp_ne 52 dX11_awaited_47 (by decide) (fun c4 => ?_) (fun c4 => ?_)
        · replace hQ := hQ.2 c4
          refine ev_iinc u2 (1) dX11_awaited_52 rfl (by decide) (ev_hw rfl) ?_
          show ev_E g m_X11_awaited 1 0 55 [some (ev_o 11 a), some (ev_i u1), some (ev_i (u2 + 1))] [] S Q
          refine ev_goto 2 dX11_awaited_55 (by decide) ?_
          exact hQ
        · replace hQ := hQ.1 c4
          refine ev_iload_n (u2) dX11_awaited_50 rfl ?_
          exact ev_ireturn .int dX11_awaited_51 rfl rfl hQ
set_option maxHeartbeats 4000000 in
set_option maxRecDepth 100000 in
theorem sg_X11_queue_0 {g : ev_G} {S : ev_S} {Q : ev_O → ev_S → Prop} (a : Nat) (x0 : Int32) (x1 : Int32) (hQ : ev_E g m_X11_queue 1 0 5 [some (ev_o 11 a), some (ev_i x0), some (ev_i x1), some (ev_i 0), some (ev_i 0)] [] S Q) : ev_Cv g m_X11_queue 1 0 [ev_o 11 a, ev_i x0, ev_i x1] S Q := by
  refine ev_enter (by decide) rfl rfl (Nat.le_of_ble_eq_true rfl) ?_
  show ev_E g m_X11_queue 1 0 0 [some (ev_o 11 a), some (ev_i x0), some (ev_i x1), none, none] [] S Q
  refine ev_iconst (0) dX11_queue_0 rfl ?_
  refine ev_istore_n dX11_queue_1 (Nat.le_of_ble_eq_true rfl) (ev_hw rfl) ?_
  show ev_E g m_X11_queue 1 0 2 [some (ev_o 11 a), some (ev_i x0), some (ev_i x1), some (ev_i 0), none] [] S Q
  refine ev_iconst (0) dX11_queue_2 rfl ?_
  refine ev_istore dX11_queue_3 (Nat.le_of_ble_eq_true rfl) (ev_hw rfl) ?_
  show ev_E g m_X11_queue 1 0 5 [some (ev_o 11 a), some (ev_i x0), some (ev_i x1), some (ev_i 0), some (ev_i 0)] [] S Q
  exact hQ
set_option maxHeartbeats 4000000 in
set_option maxRecDepth 100000 in
theorem sg_X11_queue_5 {g : ev_G} {S : ev_S} {Q : ev_O → ev_S → Prop} (a : Nat) (u1 : Int32) (u2 : Int32) (u3 : Int32) (u4 : Int32) (hQ : ((S.1 a 4) ≤ u4 → (
    Q (.inl (some (ev_i u3))) S)) ∧
  (¬ ((S.1 a 4) ≤ u4) → (
    (vp_in u4 81) ∧ (
      ((S.1 (a + 24) u4.toNatClampNeg) = 0 → (
        ((S.1 (a + 20) u4.toNatClampNeg) = u1 → (
          ((S.1 (a + 19) u4.toNatClampNeg) = u2 → (
            ev_E g m_X11_queue 1 0 5 [some (ev_o 11 a), some (ev_i u1), some (ev_i u2), some (ev_i (u3 + 1)), some (ev_i (u4 + 1))] [] S Q)) ∧
          (¬ ((S.1 (a + 19) u4.toNatClampNeg) = u2) → (
            ev_E g m_X11_queue 1 0 5 [some (ev_o 11 a), some (ev_i u1), some (ev_i u2), some (ev_i (u3 + 0)), some (ev_i (u4 + 1))] [] S Q)))) ∧
        (¬ ((S.1 (a + 20) u4.toNatClampNeg) = u1) → (
          ev_E g m_X11_queue 1 0 5 [some (ev_o 11 a), some (ev_i u1), some (ev_i u2), some (ev_i (u3 + 0)), some (ev_i (u4 + 1))] [] S Q)))) ∧
      (¬ ((S.1 (a + 24) u4.toNatClampNeg) = 0) → (
        ev_E g m_X11_queue 1 0 5 [some (ev_o 11 a), some (ev_i u1), some (ev_i u2), some (ev_i (u3 + 0)), some (ev_i (u4 + 1))] [] S Q)))))) : ev_E g m_X11_queue 1 0 5 [some (ev_o 11 a), some (ev_i u1), some (ev_i u2), some (ev_i u3), some (ev_i u4)] [] S Q := by
  refine ev_iload (u4) dX11_queue_5 rfl ?_
  refine ev_aload_n (ev_o 11 a) dX11_queue_7 rfl rfl ?_
  refine gf_11_4 dX11_queue_8 kw_805 ?_
  refine ev_icmp_ge 60 dX11_queue_11 (by decide) (fun c1 => ?_) (fun c1 => ?_)
  · replace hQ := hQ.1 c1
    refine ev_iload_n (u3) dX11_queue_60 rfl ?_
    exact ev_ireturn .int dX11_queue_61 rfl rfl hQ
  · replace hQ := hQ.2 c1
    refine ev_iload_n (u3) dX11_queue_14 rfl ?_
    refine ev_aload_n (ev_o 11 a) dX11_queue_15 rfl rfl ?_
    refine gf_11_20 dX11_queue_16 kw_835 ?_
    refine ev_iload (u4) dX11_queue_19 rfl ?_
    obtain ⟨h1, hQ⟩ := hQ
    refine ev_iaload dX11_queue_21 h1 ?_
    refine ev_if_ne 51 dX11_queue_22 (by decide) (fun c2 => ?_) (fun c2 => ?_)
    · replace hQ := hQ.2 c2
      refine ev_iconst (0) dX11_queue_51 rfl ?_
      refine ev_iadd dX11_queue_52 ?_
      refine ev_istore_n dX11_queue_53 (Nat.le_of_ble_eq_true rfl) (ev_hw rfl) ?_
      show ev_E g m_X11_queue 1 0 54 [some (ev_o 11 a), some (ev_i u1), some (ev_i u2), some (ev_i (u3 + 0)), some (ev_i u4)] [] S Q
      refine ev_iinc u4 (1) dX11_queue_54 rfl (by decide) (ev_hw rfl) ?_
      show ev_E g m_X11_queue 1 0 57 [some (ev_o 11 a), some (ev_i u1), some (ev_i u2), some (ev_i (u3 + 0)), some (ev_i (u4 + 1))] [] S Q
      refine ev_goto 5 dX11_queue_57 (by decide) ?_
      exact hQ
    · replace hQ := hQ.1 c2
      refine ev_aload_n (ev_o 11 a) dX11_queue_25 rfl rfl ?_
      refine gf_11_16 dX11_queue_26 kw_828 ?_
      refine ev_iload (u4) dX11_queue_29 rfl ?_
      refine ev_iaload dX11_queue_31 h1 ?_
      refine ev_iload_n (u1) dX11_queue_32 rfl ?_
      refine ev_icmp_ne 51 dX11_queue_33 (by decide) (fun c3 => ?_) (fun c3 => ?_)
      · replace hQ := hQ.2 c3
        refine ev_iconst (0) dX11_queue_51 rfl ?_
        refine ev_iadd dX11_queue_52 ?_
        refine ev_istore_n dX11_queue_53 (Nat.le_of_ble_eq_true rfl) (ev_hw rfl) ?_
        show ev_E g m_X11_queue 1 0 54 [some (ev_o 11 a), some (ev_i u1), some (ev_i u2), some (ev_i (u3 + 0)), some (ev_i u4)] [] S Q
        refine ev_iinc u4 (1) dX11_queue_54 rfl (by decide) (ev_hw rfl) ?_
        show ev_E g m_X11_queue 1 0 57 [some (ev_o 11 a), some (ev_i u1), some (ev_i u2), some (ev_i (u3 + 0)), some (ev_i (u4 + 1))] [] S Q
        refine ev_goto 5 dX11_queue_57 (by decide) ?_
        exact hQ
      · replace hQ := hQ.1 c3
        refine ev_aload_n (ev_o 11 a) dX11_queue_36 rfl rfl ?_
        refine gf_11_15 dX11_queue_37 kw_826 ?_
        refine ev_iload (u4) dX11_queue_40 rfl ?_
        refine ev_iaload dX11_queue_42 h1 ?_
        refine ev_iload_n (u2) dX11_queue_43 rfl ?_
        refine ev_icmp_ne 51 dX11_queue_44 (by decide) (fun c4 => ?_) (fun c4 => ?_)
        · replace hQ := hQ.2 c4
          refine ev_iconst (0) dX11_queue_51 rfl ?_
          refine ev_iadd dX11_queue_52 ?_
          refine ev_istore_n dX11_queue_53 (Nat.le_of_ble_eq_true rfl) (ev_hw rfl) ?_
          show ev_E g m_X11_queue 1 0 54 [some (ev_o 11 a), some (ev_i u1), some (ev_i u2), some (ev_i (u3 + 0)), some (ev_i u4)] [] S Q
          refine ev_iinc u4 (1) dX11_queue_54 rfl (by decide) (ev_hw rfl) ?_
          show ev_E g m_X11_queue 1 0 57 [some (ev_o 11 a), some (ev_i u1), some (ev_i u2), some (ev_i (u3 + 0)), some (ev_i (u4 + 1))] [] S Q
          refine ev_goto 5 dX11_queue_57 (by decide) ?_
          exact hQ
        · replace hQ := hQ.1 c4
          refine ev_iconst (1) dX11_queue_47 rfl ?_
          refine ev_goto 52 dX11_queue_48 (by decide) ?_
          refine ev_iadd dX11_queue_52 ?_
          refine ev_istore_n dX11_queue_53 (Nat.le_of_ble_eq_true rfl) (ev_hw rfl) ?_
          show ev_E g m_X11_queue 1 0 54 [some (ev_o 11 a), some (ev_i u1), some (ev_i u2), some (ev_i (u3 + 1)), some (ev_i u4)] [] S Q
          refine ev_iinc u4 (1) dX11_queue_54 rfl (by decide) (ev_hw rfl) ?_
          show ev_E g m_X11_queue 1 0 57 [some (ev_o 11 a), some (ev_i u1), some (ev_i u2), some (ev_i (u3 + 1)), some (ev_i (u4 + 1))] [] S Q
          refine ev_goto 5 dX11_queue_57 (by decide) ?_
          exact hQ
set_option maxHeartbeats 4000000 in
set_option maxRecDepth 100000 in
theorem sg_X11_copy_0 {g : ev_G} {S : ev_S} {Q : ev_O → ev_S → Prop} {B : Nat} (a : Nat) (hQ : ∀ q1_, ev_lw g ((0, q1_) :: S.2.1) → ∀ S1 : ev_S, S1 = ev_nt S 0 q1_ (ct_row ct_t11) → (
    ∀ S2 : ev_S, S2 = (ev_up S1 q1_ 0 (S1.1 a 0)) → (
      ∀ S3 : ev_S, S3 = (ev_up S2 q1_ 1 (S2.1 a 1)) → (
        ∀ S4 : ev_S, S4 = (ev_up S3 q1_ 2 (S3.1 a 2)) → (
          ∀ S5 : ev_S, S5 = (ev_up S4 q1_ 3 (S4.1 a 3)) → (
            ∀ S6 : ev_S, S6 = (ev_up S5 q1_ 4 (S5.1 a 4)) → (
              ∀ S7 : ev_S, S7 = (ev_up S6 q1_ 5 (S6.1 a 5)) → (
                ∀ S8 : ev_S, S8 = (ev_up S7 q1_ 6 (S7.1 a 6)) → (
                  ∀ S9 : ev_S, S9 = (ev_up S8 q1_ 7 (S8.1 a 7)) → (
                    ∀ S10 : ev_S, S10 = (ev_up S9 q1_ 8 (S9.1 a 8)) → (
                      ∀ S11 : ev_S, S11 = (ev_up S10 q1_ 9 (S10.1 a 9)) → (
                        ∀ S12 : ev_S, S12 = (ev_up S11 q1_ 10 (S11.1 a 10)) → (
                          ev_Cv g m_X10_takes 1 0 [ev_o 10 (q1_ + 2), ev_o 10 (a + 2)] S12 (fun o S13 => o = .inl none ∧ (
                            ev_Cv g m_X10_takes 1 0 [ev_o 10 (q1_ + 9), ev_o 10 (a + 9)] S13 (fun o S14 => o = .inl none ∧ (
                              ev_E g m_X11_copy 2 B 128 [some (ev_o 11 a), some (ev_o 11 q1_), some (ev_i 0)] [] S14 Q))))))))))))))))) : ev_Cv g m_X11_copy 2 (B + 360) [ev_o 11 a] S Q := by
  refine ev_enter (by decide) rfl rfl (Nat.le_of_ble_eq_true rfl) ?_
  show ev_E g m_X11_copy 2 (B + 360) 0 [some (ev_o 11 a), none, none] [] S Q
  refine ev_newT0 dX11_copy_0 dX11_copy_3 dX11_copy_4 kw_930 (Or.inr kw_931) (by omega) (by decide) (Nat.le_of_ble_eq_true rfl) (fun q1_ w1_ => ?_)
  replace hQ := hQ q1_ w1_
  refine ev_sub hQ (fun S1 hS1 hQ => ?_)
  refine ev_E.goal (pc' := 7) (L' := [some (ev_o 11 a), none, none]) (K' := [ev_o 11 q1_]) (S' := S1) ?_ rfl rfl rfl hS1
  refine ev_astore_n dX11_copy_7 rfl (Nat.le_of_ble_eq_true rfl) (ev_hw rfl) ?_
  show ev_E g m_X11_copy 2 B 8 [some (ev_o 11 a), some (ev_o 11 q1_), none] [] S1 Q
  refine ev_aload_n (ev_o 11 q1_) dX11_copy_8 rfl rfl ?_
  refine ev_aload_n (ev_o 11 a) dX11_copy_9 rfl rfl ?_
  refine gf_11_0 dX11_copy_10 kw_797 ?_
  refine pf_11_0 dX11_copy_13 kw_797 ?_
  refine ev_sub hQ (fun S2 hS2 hQ => ?_)
  refine ev_E.goal (pc' := 16) (L' := [some (ev_o 11 a), some (ev_o 11 q1_), none]) (K' := []) (S' := S2) ?_ rfl rfl rfl hS2
  refine ev_aload_n (ev_o 11 q1_) dX11_copy_16 rfl rfl ?_
  refine ev_aload_n (ev_o 11 a) dX11_copy_17 rfl rfl ?_
  refine gf_11_1 dX11_copy_18 kw_799 ?_
  refine pf_11_1 dX11_copy_21 kw_799 ?_
  refine ev_sub hQ (fun S3 hS3 hQ => ?_)
  refine ev_E.goal (pc' := 24) (L' := [some (ev_o 11 a), some (ev_o 11 q1_), none]) (K' := []) (S' := S3) ?_ rfl rfl rfl hS3
  refine ev_aload_n (ev_o 11 q1_) dX11_copy_24 rfl rfl ?_
  refine ev_aload_n (ev_o 11 a) dX11_copy_25 rfl rfl ?_
  refine gf_11_2 dX11_copy_26 kw_801 ?_
  refine pf_11_2 dX11_copy_29 kw_801 ?_
  refine ev_sub hQ (fun S4 hS4 hQ => ?_)
  refine ev_E.goal (pc' := 32) (L' := [some (ev_o 11 a), some (ev_o 11 q1_), none]) (K' := []) (S' := S4) ?_ rfl rfl rfl hS4
  refine ev_aload_n (ev_o 11 q1_) dX11_copy_32 rfl rfl ?_
  refine ev_aload_n (ev_o 11 a) dX11_copy_33 rfl rfl ?_
  refine gf_11_3 dX11_copy_34 kw_803 ?_
  refine pf_11_3 dX11_copy_37 kw_803 ?_
  refine ev_sub hQ (fun S5 hS5 hQ => ?_)
  refine ev_E.goal (pc' := 40) (L' := [some (ev_o 11 a), some (ev_o 11 q1_), none]) (K' := []) (S' := S5) ?_ rfl rfl rfl hS5
  refine ev_aload_n (ev_o 11 q1_) dX11_copy_40 rfl rfl ?_
  refine ev_aload_n (ev_o 11 a) dX11_copy_41 rfl rfl ?_
  refine gf_11_4 dX11_copy_42 kw_805 ?_
  refine pf_11_4 dX11_copy_45 kw_805 ?_
  refine ev_sub hQ (fun S6 hS6 hQ => ?_)
  refine ev_E.goal (pc' := 48) (L' := [some (ev_o 11 a), some (ev_o 11 q1_), none]) (K' := []) (S' := S6) ?_ rfl rfl rfl hS6
  refine ev_aload_n (ev_o 11 q1_) dX11_copy_48 rfl rfl ?_
  refine ev_aload_n (ev_o 11 a) dX11_copy_49 rfl rfl ?_
  refine gf_11_5 dX11_copy_50 kw_807 ?_
  refine pf_11_5 dX11_copy_53 kw_807 ?_
  refine ev_sub hQ (fun S7 hS7 hQ => ?_)
  refine ev_E.goal (pc' := 56) (L' := [some (ev_o 11 a), some (ev_o 11 q1_), none]) (K' := []) (S' := S7) ?_ rfl rfl rfl hS7
  refine ev_aload_n (ev_o 11 q1_) dX11_copy_56 rfl rfl ?_
  refine ev_aload_n (ev_o 11 a) dX11_copy_57 rfl rfl ?_
  refine gf_11_6 dX11_copy_58 kw_809 ?_
  refine pf_11_6 dX11_copy_61 kw_809 ?_
  refine ev_sub hQ (fun S8 hS8 hQ => ?_)
  refine ev_E.goal (pc' := 64) (L' := [some (ev_o 11 a), some (ev_o 11 q1_), none]) (K' := []) (S' := S8) ?_ rfl rfl rfl hS8
  refine ev_aload_n (ev_o 11 q1_) dX11_copy_64 rfl rfl ?_
  refine ev_aload_n (ev_o 11 a) dX11_copy_65 rfl rfl ?_
  refine gf_11_7 dX11_copy_66 kw_810 ?_
  refine pf_11_7 dX11_copy_69 kw_810 ?_
  refine ev_sub hQ (fun S9 hS9 hQ => ?_)
  refine ev_E.goal (pc' := 72) (L' := [some (ev_o 11 a), some (ev_o 11 q1_), none]) (K' := []) (S' := S9) ?_ rfl rfl rfl hS9
  refine ev_aload_n (ev_o 11 q1_) dX11_copy_72 rfl rfl ?_
  refine ev_aload_n (ev_o 11 a) dX11_copy_73 rfl rfl ?_
  refine gf_11_8 dX11_copy_74 kw_812 ?_
  refine pf_11_8 dX11_copy_77 kw_812 ?_
  refine ev_sub hQ (fun S10 hS10 hQ => ?_)
  refine ev_E.goal (pc' := 80) (L' := [some (ev_o 11 a), some (ev_o 11 q1_), none]) (K' := []) (S' := S10) ?_ rfl rfl rfl hS10
  refine ev_aload_n (ev_o 11 q1_) dX11_copy_80 rfl rfl ?_
  refine ev_aload_n (ev_o 11 a) dX11_copy_81 rfl rfl ?_
  refine gf_11_9 dX11_copy_82 kw_814 ?_
  refine pf_11_9 dX11_copy_85 kw_814 ?_
  refine ev_sub hQ (fun S11 hS11 hQ => ?_)
  refine ev_E.goal (pc' := 88) (L' := [some (ev_o 11 a), some (ev_o 11 q1_), none]) (K' := []) (S' := S11) ?_ rfl rfl rfl hS11
  refine ev_aload_n (ev_o 11 q1_) dX11_copy_88 rfl rfl ?_
  refine ev_aload_n (ev_o 11 a) dX11_copy_89 rfl rfl ?_
  refine gf_11_10 dX11_copy_90 kw_816 ?_
  refine pf_11_10 dX11_copy_93 kw_816 ?_
  refine ev_sub hQ (fun S12 hS12 hQ => ?_)
  refine ev_E.goal (pc' := 96) (L' := [some (ev_o 11 a), some (ev_o 11 q1_), none]) (K' := []) (S' := S12) ?_ rfl rfl rfl hS12
  refine ev_aload_n (ev_o 11 q1_) dX11_copy_96 rfl rfl ?_
  refine gf_11_11 dX11_copy_97 kw_818 ?_
  refine ev_iconst (0) dX11_copy_100 rfl ?_
  refine ev_aalB dX11_copy_101 (j_vin (by decide)) ?_
  show ev_E g m_X11_copy 2 B 102 [some (ev_o 11 a), some (ev_o 11 q1_), none] [ev_o 10 (q1_ + 2)] S12 Q
  refine ev_aload_n (ev_o 11 a) dX11_copy_102 rfl rfl ?_
  refine gf_11_11 dX11_copy_103 kw_818 ?_
  refine ev_iconst (0) dX11_copy_106 rfl ?_
  refine ev_aalB dX11_copy_107 (j_vin (by decide)) ?_
  show ev_E g m_X11_copy 2 B 108 [some (ev_o 11 a), some (ev_o 11 q1_), none] [ev_o 10 (a + 2), ev_o 10 (q1_ + 2)] S12 Q
  refine ev_cV mv_X10_takes 1 0 10 [ev_o 10 (a + 2)] [] dX11_copy_108 kw_932 rfl (by decide) rfl (by decide) (by omega) (Nat.le_of_ble_eq_true rfl) hQ ?_ rfl
  rintro o S13 ⟨rfl, hQ⟩
  show ev_E g m_X11_copy 2 B 111 [some (ev_o 11 a), some (ev_o 11 q1_), none] [] S13 Q
  refine ev_aload_n (ev_o 11 q1_) dX11_copy_111 rfl rfl ?_
  refine gf_11_11 dX11_copy_112 kw_818 ?_
  refine ev_iconst (1) dX11_copy_115 rfl ?_
  refine ev_aalB dX11_copy_116 (j_vin (by decide)) ?_
  show ev_E g m_X11_copy 2 B 117 [some (ev_o 11 a), some (ev_o 11 q1_), none] [ev_o 10 (q1_ + 9)] S13 Q
  refine ev_aload_n (ev_o 11 a) dX11_copy_117 rfl rfl ?_
  refine gf_11_11 dX11_copy_118 kw_818 ?_
  refine ev_iconst (1) dX11_copy_121 rfl ?_
  refine ev_aalB dX11_copy_122 (j_vin (by decide)) ?_
  show ev_E g m_X11_copy 2 B 123 [some (ev_o 11 a), some (ev_o 11 q1_), none] [ev_o 10 (a + 9), ev_o 10 (q1_ + 9)] S13 Q
  refine ev_cV mv_X10_takes 1 0 10 [ev_o 10 (a + 9)] [] dX11_copy_123 kw_932 rfl (by decide) rfl (by decide) (by omega) (Nat.le_of_ble_eq_true rfl) hQ ?_ rfl
  rintro o S14 ⟨rfl, hQ⟩
  show ev_E g m_X11_copy 2 B 126 [some (ev_o 11 a), some (ev_o 11 q1_), none] [] S14 Q
  refine ev_iconst (0) dX11_copy_126 rfl ?_
  refine ev_istore_n dX11_copy_127 (Nat.le_of_ble_eq_true rfl) (ev_hw rfl) ?_
  show ev_E g m_X11_copy 2 B 128 [some (ev_o 11 a), some (ev_o 11 q1_), some (ev_i 0)] [] S14 Q
  exact hQ
