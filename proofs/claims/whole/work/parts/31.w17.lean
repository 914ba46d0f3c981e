set_option maxHeartbeats 4000000 in
set_option maxRecDepth 100000 in
theorem sg_L_law_870 {g : ev_G} {S : ev_S} {Q : ev_O → ev_S → Prop} {B : Nat} (k0 a b o1 o2 : Nat) (u5 : Int32) (hQ : (vp_in (u5 + 1) (ev_sl g)) ∧ (
    ev_Cv g m_L_winner 5 1 [ev_o 9 a, ev_i (ev_sx g (u5 + 1).toNatClampNeg), ev_o 21 o1] S (fun o S1 => ∃ v1_ : Int32, o = .inl (some (ev_i v1_)) ∧ (
      ev_Cv g m_X10_winner 4 0 [ev_o 10 b, ev_i (ev_sx g (u5 + 1).toNatClampNeg)] S1 (fun o S2 => ∃ v2_ : Int32, o = .inl (some (ev_i v2_)) ∧ (
        ((S2.1 b 7) = v1_ → (
          (v1_ = 0 → (
            ((lg_cmp S2.2.1 v2_.toInt64) = 0 → (
              ev_E g m_L_law 52 (B + 1) 3142 [some (ev_x 0 k0), some (ev_o 9 a), some (ev_o 10 b), some (ev_o 21 o1), some (ev_o 22 o2), some (ev_i u5), none, none, none, none] [] S2 Q)) ∧
            (¬ ((lg_cmp S2.2.1 v2_.toInt64) = 0) → (
              Q (.inl (some (ev_i 0))) S2)))) ∧
          (¬ (v1_ = 0) → (
            ev_E g m_L_law 52 (B + 1) 3142 [some (ev_x 0 k0), some (ev_o 9 a), some (ev_o 10 b), some (ev_o 21 o1), some (ev_o 22 o2), some (ev_i u5), none, none, none, none] [] S2 Q)))) ∧
        (¬ ((S2.1 b 7) = v1_) → (
          Q (.inl (some (ev_i 0))) S2)))))))) : ev_E g m_L_law 52 (B + 2) 870 [some (ev_x 0 k0), some (ev_o 9 a), some (ev_o 10 b), some (ev_o 21 o1), some (ev_o 22 o2), some (ev_i u5), none, none, none, none] [] S Q := by
  refine ev_aload_n (ev_o 9 a) dL_law_870 rfl rfl ?_
  refine ev_aload_n (ev_x 0 k0) dL_law_871 rfl rfl ?_
  refine ev_iload (u5) dL_law_872 rfl ?_
  refine ev_iconst (1) dL_law_874 rfl ?_
  refine ev_iadd dL_law_875 ?_
  obtain ⟨h1, hQ⟩ := hQ
  refine ev_sld dL_law_876 h1 ?_
  refine ev_aload_n (ev_o 21 o1) dL_law_877 rfl rfl ?_
  refine ev_cH mh_L_winner 5 1 [ev_o 9 a, ev_i (ev_sx g (u5 + 1).toNatClampNeg), ev_o 21 o1] [] dL_law_878 kw_1394 rfl (by decide) (by omega) (Nat.le_of_ble_eq_true rfl) hQ ?_ rfl
  rintro o S1 ⟨v1_, rfl, hQ⟩
  show ev_E g m_L_law 52 (B + 1) 881 [some (ev_x 0 k0), some (ev_o 9 a), some (ev_o 10 b), some (ev_o 21 o1), some (ev_o 22 o2), some (ev_i u5), none, none, none, none] [ev_i v1_] S1 Q
  refine ev_istore dL_law_881 (Nat.le_of_ble_eq_true rfl) (ev_hw rfl) ?_
  show ev_E g m_L_law 52 (B + 1) 883 [some (ev_x 0 k0), some (ev_o 9 a), some (ev_o 10 b), some (ev_o 21 o1), some (ev_o 22 o2), some (ev_i u5), some (ev_i v1_), none, none, none] [] S1 Q
  refine ev_aload_n (ev_o 10 b) dL_law_883 rfl rfl ?_
  refine ev_aload_n (ev_x 0 k0) dL_law_884 rfl rfl ?_
  refine ev_iload (u5) dL_law_885 rfl ?_
  refine ev_iconst (1) dL_law_887 rfl ?_
  refine ev_iadd dL_law_888 ?_
  refine ev_sld dL_law_889 h1 ?_
  refine ev_cV mv_X10_winner 4 0 10 [ev_i (ev_sx g (u5 + 1).toNatClampNeg)] [] dL_law_890 kw_2225 rfl (by decide) rfl (by decide) (by omega) (Nat.le_of_ble_eq_true rfl) hQ ?_ rfl
  rintro o S2 ⟨v2_, rfl, hQ⟩
  show ev_E g m_L_law 52 (B + 1) 893 [some (ev_x 0 k0), some (ev_o 9 a), some (ev_o 10 b), some (ev_o 21 o1), some (ev_o 22 o2), some (ev_i u5), some (ev_i v1_), none, none, none] [ev_i v2_] S2 Q
  refine ev_istore dL_law_893 (Nat.le_of_ble_eq_true rfl) (ev_hw rfl) ?_
  show ev_E g m_L_law 52 (B + 1) 895 [some (ev_x 0 k0), some (ev_o 9 a), some (ev_o 10 b), some (ev_o 21 o1), some (ev_o 22 o2), some (ev_i u5), some (ev_i v1_), some (ev_i v2_), none, none] [] S2 Q
  refine ev_aload_n (ev_o 10 b) dL_law_895 rfl rfl ?_
  refine ev_fV mv_X10_thrown 1 10 [] [] dL_law_896 kw_1939 rfl (by decide) rfl (by decide) (Nat.le_of_ble_eq_true rfl) (sp_X10_thrown b) ?_ rfl
  refine ev_iload (v1_) dL_law_899 rfl ?_
  refine ev_icmp_eq 906 dL_law_901 (by decide) (fun c1 => ?_) (fun c1 => ?_)
  · replace hQ := hQ.1 c1
    refine ev_iload (v1_) dL_law_906 rfl ?_
    refine ev_if_ne 923 dL_law_908 (by decide) (fun c2 => ?_) (fun c2 => ?_)
    · replace hQ := hQ.2 c2
      refine ev_goto 3142 dL_law_923 (by decide) ?_
      refine ev_fgm [true, true, true, true, true, true, false, false, false, false] ?_
      exact hQ
    · replace hQ := hQ.1 c2
      refine ev_aload_n (ev_o 21 o1) dL_law_911 rfl rfl ?_
      refine ev_iconst (0) dL_law_912 rfl ?_
      refine ev_laload dL_law_913 ?_
      refine ev_iload (v2_) dL_law_914 rfl ?_
      refine ev_i2l dL_law_916 ?_
      refine ev_lcmp dL_law_917 ?_
      refine ev_if_eq 923 dL_law_918 (by decide) (fun c3 => ?_) (fun c3 => ?_)
      · replace hQ := hQ.1 c3
        refine ev_goto 3142 dL_law_923 (by decide) ?_
        refine ev_fgm [true, true, true, true, true, true, false, false, false, false] ?_
        exact hQ
      · replace hQ := hQ.2 c3
        refine ev_iconst (0) dL_law_921 rfl ?_
        exact ev_ireturn .boolean dL_law_922 rfl rfl hQ
  · replace hQ := hQ.2 c1
    refine ev_iconst (0) dL_law_904 rfl ?_
    exact ev_ireturn .boolean dL_law_905 rfl rfl hQ
set_option maxHeartbeats 4000000 in
set_option maxRecDepth 100000 in
theorem sg_L_law_926 {g : ev_G} {S : ev_S} {Q : ev_O → ev_S → Prop} {B : Nat} (k0 a b o1 o2 : Nat) (u5 : Int32) (hQ : (vp_in (u5 + 1) (ev_sl g)) ∧ (
    (vp_in (u5 + 2) (ev_sl g)) ∧ (
      (vp_in (u5 + 3) (ev_sl g)) ∧ (
        ev_Cv g m_L_canMove 5 1 [ev_o 9 a, ev_i (ev_sx g (u5 + 1).toNatClampNeg), ev_i (ev_sx g (u5 + 2).toNatClampNeg), ev_i (ev_sx g (u5 + 3).toNatClampNeg), ev_o 21 o1] S (fun o S1 => ∃ v1_ : Int32, o = .inl (some (ev_i v1_)) ∧ (
          ev_Cv g m_X10_canMove 4 0 [ev_o 10 b, ev_i (ev_sx g (u5 + 1).toNatClampNeg), ev_i (ev_sx g (u5 + 2).toNatClampNeg), ev_i (ev_sx g (u5 + 3).toNatClampNeg)] S1 (fun o S2 => ∃ v2_ : Bool, o = .inl (some (ev_i (if v2_ = true then 1 else 0))) ∧ (
            (v2_ = true → (
              ((S2.1 b 7) = v1_ → (
                (v1_ = 0 → (
                  ((lg_cmp S2.2.1 1) = 0 → (
                    ev_E g m_L_law 52 (B + 1) 3142 [some (ev_x 0 k0), some (ev_o 9 a), some (ev_o 10 b), some (ev_o 21 o1), some (ev_o 22 o2), some (ev_i u5), none, none, none, none] [] S2 Q)) ∧
                  (¬ ((lg_cmp S2.2.1 1) = 0) → (
                    Q (.inl (some (ev_i 0))) S2)))) ∧
                (¬ (v1_ = 0) → (
                  ev_E g m_L_law 52 (B + 1) 3142 [some (ev_x 0 k0), some (ev_o 9 a), some (ev_o 10 b), some (ev_o 21 o1), some (ev_o 22 o2), some (ev_i u5), none, none, none, none] [] S2 Q)))) ∧
              (¬ ((S2.1 b 7) = v1_) → (
                Q (.inl (some (ev_i 0))) S2)))) ∧
            (¬ (v2_ = true) → (
              ((S2.1 b 7) = v1_ → (
                (v1_ = 0 → (
                  ((lg_cmp S2.2.1 0) = 0 → (
                    ev_E g m_L_law 52 (B + 1) 3142 [some (ev_x 0 k0), some (ev_o 9 a), some (ev_o 10 b), some (ev_o 21 o1), some (ev_o 22 o2), some (ev_i u5), none, none, none, none] [] S2 Q)) ∧
                  (¬ ((lg_cmp S2.2.1 0) = 0) → (
                    Q (.inl (some (ev_i 0))) S2)))) ∧
                (¬ (v1_ = 0) → (
                  ev_E g m_L_law 52 (B + 1) 3142 [some (ev_x 0 k0), some (ev_o 9 a), some (ev_o 10 b), some (ev_o 21 o1), some (ev_o 22 o2), some (ev_i u5), none, none, none, none] [] S2 Q)))) ∧
              (¬ ((S2.1 b 7) = v1_) → (
                Q (.inl (some (ev_i 0))) S2)))))))))))) : ev_E g m_L_law 52 (B + 2) 926 [some (ev_x 0 k0), some (ev_o 9 a), some (ev_o 10 b), some (ev_o 21 o1), some (ev_o 22 o2), some (ev_i u5), none, none, none, none] [] S Q := by
  refine ev_aload_n (ev_o 9 a) dL_law_926 rfl rfl ?_
  refine ev_aload_n (ev_x 0 k0) dL_law_927 rfl rfl ?_
  refine ev_iload (u5) dL_law_928 rfl ?_
  refine ev_iconst (1) dL_law_930 rfl ?_
  refine ev_iadd dL_law_931 ?_
  obtain ⟨h1, hQ⟩ := hQ
  refine ev_sld dL_law_932 h1 ?_
  refine ev_aload_n (ev_x 0 k0) dL_law_933 rfl rfl ?_
  refine ev_iload (u5) dL_law_934 rfl ?_
  refine ev_iconst (2) dL_law_936 rfl ?_
  refine ev_iadd dL_law_937 ?_
  obtain ⟨h2, hQ⟩ := hQ
  refine ev_sld dL_law_938 h2 ?_
  refine ev_aload_n (ev_x 0 k0) dL_law_939 rfl rfl ?_
  refine ev_iload (u5) dL_law_940 rfl ?_
  refine ev_iconst (3) dL_law_942 rfl ?_
  refine ev_iadd dL_law_943 ?_
  obtain ⟨h3, hQ⟩ := hQ
  refine ev_sld dL_law_944 h3 ?_
  refine ev_aload_n (ev_o 21 o1) dL_law_945 rfl rfl ?_
  refine ev_cH mh_L_canMove 5 1 [ev_o 9 a, ev_i (ev_sx g (u5 + 1).toNatClampNeg), ev_i (ev_sx g (u5 + 2).toNatClampNeg), ev_i (ev_sx g (u5 + 3).toNatClampNeg), ev_o 21 o1] [] dL_law_946 kw_1401 rfl (by decide) (by omega) (Nat.le_of_ble_eq_true rfl) hQ ?_ rfl
  rintro o S1 ⟨v1_, rfl, hQ⟩
  show ev_E g m_L_law 52 (B + 1) 949 [some (ev_x 0 k0), some (ev_o 9 a), some (ev_o 10 b), some (ev_o 21 o1), some (ev_o 22 o2), some (ev_i u5), none, none, none, none] [ev_i v1_] S1 Q
  refine ev_istore dL_law_949 (Nat.le_of_ble_eq_true rfl) (ev_hw rfl) ?_
  show ev_E g m_L_law 52 (B + 1) 951 [some (ev_x 0 k0), some (ev_o 9 a), some (ev_o 10 b), some (ev_o 21 o1), some (ev_o 22 o2), some (ev_i u5), some (ev_i v1_), none, none, none] [] S1 Q
  refine ev_aload_n (ev_o 10 b) dL_law_951 rfl rfl ?_
  refine ev_aload_n (ev_x 0 k0) dL_law_952 rfl rfl ?_
  refine ev_iload (u5) dL_law_953 rfl ?_
  refine ev_iconst (1) dL_law_955 rfl ?_
  refine ev_iadd dL_law_956 ?_
  refine ev_sld dL_law_957 h1 ?_
  refine ev_aload_n (ev_x 0 k0) dL_law_958 rfl rfl ?_
  refine ev_iload (u5) dL_law_959 rfl ?_
  refine ev_iconst (2) dL_law_961 rfl ?_
  refine ev_iadd dL_law_962 ?_
  refine ev_sld dL_law_963 h2 ?_
  refine ev_aload_n (ev_x 0 k0) dL_law_964 rfl rfl ?_
  refine ev_iload (u5) dL_law_965 rfl ?_
  refine ev_iconst (3) dL_law_967 rfl ?_
  refine ev_iadd dL_law_968 ?_
  refine ev_sld dL_law_969 h3 ?_
  refine ev_cV mv_X10_canMove 4 0 10 [ev_i (ev_sx g (u5 + 1).toNatClampNeg), ev_i (ev_sx g (u5 + 2).toNatClampNeg), ev_i (ev_sx g (u5 + 3).toNatClampNeg)] [] dL_law_970 kw_2229 rfl (by decide) rfl (by decide) (by omega) (Nat.le_of_ble_eq_true rfl) hQ ?_ rfl
  rintro o S2 ⟨v2_, rfl, hQ⟩
  show ev_E g m_L_law 52 (B + 1) 973 [some (ev_x 0 k0), some (ev_o 9 a), some (ev_o 10 b), some (ev_o 21 o1), some (ev_o 22 o2), some (ev_i u5), some (ev_i v1_), none, none, none] [ev_i (if v2_ = true then 1 else 0)] S2 Q
  by_cases c1 : v2_ = true
  · rw [if_pos c1]
    replace hQ := hQ.1 c1
    refine ev_istore dL_law_973 (Nat.le_of_ble_eq_true rfl) (ev_hw rfl) ?_
    show ev_E g m_L_law 52 (B + 1) 975 [some (ev_x 0 k0), some (ev_o 9 a), some (ev_o 10 b), some (ev_o 21 o1), some (ev_o 22 o2), some (ev_i u5), some (ev_i v1_), some (ev_i 1), none, none] [] S2 Q
    refine ev_aload_n (ev_o 10 b) dL_law_975 rfl rfl ?_
    refine ev_fV mv_X10_thrown 1 10 [] [] dL_law_976 kw_1939 rfl (by decide) rfl (by decide) (Nat.le_of_ble_eq_true rfl) (sp_X10_thrown b) ?_ rfl
    refine ev_iload (v1_) dL_law_979 rfl ?_
    refine ev_icmp_eq 986 dL_law_981 (by decide) (fun c2 => ?_) (fun c2 => ?_)
    · replace hQ := hQ.1 c2
      refine ev_iload (v1_) dL_law_986 rfl ?_
      refine ev_if_ne 1010 dL_law_988 (by decide) (fun c3 => ?_) (fun c3 => ?_)
      · replace hQ := hQ.2 c3
        refine ev_goto 3142 dL_law_1010 (by decide) ?_
        refine ev_fgm [true, true, true, true, true, true, false, false, false, false] ?_
        exact hQ
      · replace hQ := hQ.1 c3
        refine ev_aload_n (ev_o 21 o1) dL_law_991 rfl rfl ?_
        refine ev_iconst (0) dL_law_992 rfl ?_
        refine ev_laload dL_law_993 ?_
        refine ev_iload (1) dL_law_994 rfl ?_
        refine ev_if_eq 1003 dL_law_996 (by decide) (fun h9 => absurd h9 (by decide : ¬ ((1 : Int32) = 0))) (fun _ => ?_)
        refine ev_lconst (1) dL_law_999 rfl ?_
        refine ev_goto 1004 dL_law_1000 (by decide) ?_
        refine ev_lcmp dL_law_1004 ?_
        refine ev_if_eq 1010 dL_law_1005 (by decide) (fun c4 => ?_) (fun c4 => ?_)
        · replace hQ := hQ.1 c4
          refine ev_goto 3142 dL_law_1010 (by decide) ?_
          refine ev_fgm [true, true, true, true, true, true, false, false, false, false] ?_
          exact hQ
        · replace hQ := hQ.2 c4
          refine ev_iconst (0) dL_law_1008 rfl ?_
          exact ev_ireturn .boolean dL_law_1009 rfl rfl hQ
    · replace hQ := hQ.2 c2
      refine ev_iconst (0) dL_law_984 rfl ?_
      exact ev_ireturn .boolean dL_law_985 rfl rfl hQ
  · rw [if_neg c1]
    replace hQ := hQ.2 c1
    refine ev_istore dL_law_973 (Nat.le_of_ble_eq_true rfl) (ev_hw rfl) ?_
    show ev_E g m_L_law 52 (B + 1) 975 [some (ev_x 0 k0), some (ev_o 9 a), some (ev_o 10 b), some (ev_o 21 o1), some (ev_o 22 o2), some (ev_i u5), some (ev_i v1_), some (ev_i 0), none, none] [] S2 Q
    refine ev_aload_n (ev_o 10 b) dL_law_975 rfl rfl ?_
    refine ev_fV mv_X10_thrown 1 10 [] [] dL_law_976 kw_1939 rfl (by decide) rfl (by decide) (Nat.le_of_ble_eq_true rfl) (sp_X10_thrown b) ?_ rfl
    refine ev_iload (v1_) dL_law_979 rfl ?_
    refine ev_icmp_eq 986 dL_law_981 (by decide) (fun c5 => ?_) (fun c5 => ?_)
    · replace hQ := hQ.1 c5
      refine ev_iload (v1_) dL_law_986 rfl ?_
      refine ev_if_ne 1010 dL_law_988 (by decide) (fun c6 => ?_) (fun c6 => ?_)
      · replace hQ := hQ.2 c6
        refine ev_goto 3142 dL_law_1010 (by decide) ?_
        refine ev_fgm [true, true, true, true, true, true, false, false, false, false] ?_
        exact hQ
      · replace hQ := hQ.1 c6
        refine ev_aload_n (ev_o 21 o1) dL_law_991 rfl rfl ?_
        refine ev_iconst (0) dL_law_992 rfl ?_
        refine ev_laload dL_law_993 ?_
        refine ev_iload (0) dL_law_994 rfl ?_
        refine ev_if_eq 1003 dL_law_996 (by decide) (fun _ => ?_) (fun h9 => absurd (by decide : ((0 : Int32) = 0)) h9)
        refine ev_lconst (0) dL_law_1003 rfl ?_
        refine ev_lcmp dL_law_1004 ?_
        refine ev_if_eq 1010 dL_law_1005 (by decide) (fun c7 => ?_) (fun c7 => ?_)
        · replace hQ := hQ.1 c7
          refine ev_goto 3142 dL_law_1010 (by decide) ?_
          refine ev_fgm [true, true, true, true, true, true, false, false, false, false] ?_
          exact hQ
        · replace hQ := hQ.2 c7
          refine ev_iconst (0) dL_law_1008 rfl ?_
          exact ev_ireturn .boolean dL_law_1009 rfl rfl hQ
    · replace hQ := hQ.2 c5
      refine ev_iconst (0) dL_law_984 rfl ?_
      exact ev_ireturn .boolean dL_law_985 rfl rfl hQ
set_option maxHeartbeats 4000000 in
set_option maxRecDepth 100000 in
theorem sg_L_law_1013 {g : ev_G} {S : ev_S} {Q : ev_O → ev_S → Prop} {B : Nat} (k0 a b o1 o2 : Nat) (u5 : Int32) (hQ : (vp_in (u5 + 1) (ev_sl g)) ∧ (
    (vp_in (u5 + 2) (ev_sl g)) ∧ (
      ev_Cv g m_L_mobility 6 1 [ev_o 9 a, ev_i (ev_sx g (u5 + 1).toNatClampNeg), ev_i (ev_sx g (u5 + 2).toNatClampNeg), ev_o 21 o1] S (fun o S1 => ∃ v1_ : Int32, o = .inl (some (ev_i v1_)) ∧ (
        ev_Cv g m_X10_mobility 4 0 [ev_o 10 b, ev_i (ev_sx g (u5 + 1).toNatClampNeg), ev_i (ev_sx g (u5 + 2).toNatClampNeg)] S1 (fun o S2 => ∃ v2_ : Int32, o = .inl (some (ev_i v2_)) ∧ (
          ((S2.1 b 7) = v1_ → (
            (v1_ = 0 → (
              ((lg_cmp S2.2.1 v2_.toInt64) = 0 → (
                ev_E g m_L_law 52 (B + 1) 3142 [some (ev_x 0 k0), some (ev_o 9 a), some (ev_o 10 b), some (ev_o 21 o1), some (ev_o 22 o2), some (ev_i u5), none, none, none, none] [] S2 Q)) ∧
              (¬ ((lg_cmp S2.2.1 v2_.toInt64) = 0) → (
                Q (.inl (some (ev_i 0))) S2)))) ∧
            (¬ (v1_ = 0) → (
              ev_E g m_L_law 52 (B + 1) 3142 [some (ev_x 0 k0), some (ev_o 9 a), some (ev_o 10 b), some (ev_o 21 o1), some (ev_o 22 o2), some (ev_i u5), none, none, none, none] [] S2 Q)))) ∧
          (¬ ((S2.1 b 7) = v1_) → (
            Q (.inl (some (ev_i 0))) S2))))))))) : ev_E g m_L_law 52 (B + 2) 1013 [some (ev_x 0 k0), some (ev_o 9 a), some (ev_o 10 b), some (ev_o 21 o1), some (ev_o 22 o2), some (ev_i u5), none, none, none, none] [] S Q := by
  refine ev_aload_n (ev_o 9 a) dL_law_1013 rfl rfl ?_
  refine ev_aload_n (ev_x 0 k0) dL_law_1014 rfl rfl ?_
  refine ev_iload (u5) dL_law_1015 rfl ?_
  refine ev_iconst (1) dL_law_1017 rfl ?_
  refine ev_iadd dL_law_1018 ?_
  obtain ⟨h1, hQ⟩ := hQ
  refine ev_sld dL_law_1019 h1 ?_
  refine ev_aload_n (ev_x 0 k0) dL_law_1020 rfl rfl ?_
  refine ev_iload (u5) dL_law_1021 rfl ?_
  refine ev_iconst (2) dL_law_1023 rfl ?_
  refine ev_iadd dL_law_1024 ?_
  obtain ⟨h2, hQ⟩ := hQ
  refine ev_sld dL_law_1025 h2 ?_
  refine ev_aload_n (ev_o 21 o1) dL_law_1026 rfl rfl ?_
  refine ev_cH mh_L_mobility 6 1 [ev_o 9 a, ev_i (ev_sx g (u5 + 1).toNatClampNeg), ev_i (ev_sx g (u5 + 2).toNatClampNeg), ev_o 21 o1] [] dL_law_1027 kw_1409 rfl (by decide) (by omega) (Nat.le_of_ble_eq_true rfl) hQ ?_ rfl
  rintro o S1 ⟨v1_, rfl, hQ⟩
  show ev_E g m_L_law 52 (B + 1) 1030 [some (ev_x 0 k0), some (ev_o 9 a), some (ev_o 10 b), some (ev_o 21 o1), some (ev_o 22 o2), some (ev_i u5), none, none, none, none] [ev_i v1_] S1 Q
  refine ev_istore dL_law_1030 (Nat.le_of_ble_eq_true rfl) (ev_hw rfl) ?_
  show ev_E g m_L_law 52 (B + 1) 1032 [some (ev_x 0 k0), some (ev_o 9 a), some (ev_o 10 b), some (ev_o 21 o1), some (ev_o 22 o2), some (ev_i u5), some (ev_i v1_), none, none, none] [] S1 Q
  refine ev_aload_n (ev_o 10 b) dL_law_1032 rfl rfl ?_
  refine ev_aload_n (ev_x 0 k0) dL_law_1033 rfl rfl ?_
  refine ev_iload (u5) dL_law_1034 rfl ?_
  refine ev_iconst (1) dL_law_1036 rfl ?_
  refine ev_iadd dL_law_1037 ?_
  refine ev_sld dL_law_1038 h1 ?_
  refine ev_aload_n (ev_x 0 k0) dL_law_1039 rfl rfl ?_
  refine ev_iload (u5) dL_law_1040 rfl ?_
  refine ev_iconst (2) dL_law_1042 rfl ?_
  refine ev_iadd dL_law_1043 ?_
  refine ev_sld dL_law_1044 h2 ?_
  refine ev_cV mv_X10_mobility 4 0 10 [ev_i (ev_sx g (u5 + 1).toNatClampNeg), ev_i (ev_sx g (u5 + 2).toNatClampNeg)] [] dL_law_1045 kw_2233 rfl (by decide) rfl (by decide) (by omega) (Nat.le_of_ble_eq_true rfl) hQ ?_ rfl
  rintro o S2 ⟨v2_, rfl, hQ⟩
  show ev_E g m_L_law 52 (B + 1) 1048 [some (ev_x 0 k0), some (ev_o 9 a), some (ev_o 10 b), some (ev_o 21 o1), some (ev_o 22 o2), some (ev_i u5), some (ev_i v1_), none, none, none] [ev_i v2_] S2 Q
  refine ev_istore dL_law_1048 (Nat.le_of_ble_eq_true rfl) (ev_hw rfl) ?_
  show ev_E g m_L_law 52 (B + 1) 1050 [some (ev_x 0 k0), some (ev_o 9 a), some (ev_o 10 b), some (ev_o 21 o1), some (ev_o 22 o2), some (ev_i u5), some (ev_i v1_), some (ev_i v2_), none, none] [] S2 Q
  refine ev_aload_n (ev_o 10 b) dL_law_1050 rfl rfl ?_
  refine ev_fV mv_X10_thrown 1 10 [] [] dL_law_1051 kw_1939 rfl (by decide) rfl (by decide) (Nat.le_of_ble_eq_true rfl) (sp_X10_thrown b) ?_ rfl
  refine ev_iload (v1_) dL_law_1054 rfl ?_
  refine ev_icmp_eq 1061 dL_law_1056 (by decide) (fun c1 => ?_) (fun c1 => ?_)
  · replace hQ := hQ.1 c1
    refine ev_iload (v1_) dL_law_1061 rfl ?_
    refine ev_if_ne 1078 dL_law_1063 (by decide) (fun c2 => ?_) (fun c2 => ?_)
    · replace hQ := hQ.2 c2
      refine ev_goto 3142 dL_law_1078 (by decide) ?_
      refine ev_fgm [true, true, true, true, true, true, false, false, false, false] ?_
      exact hQ
    · replace hQ := hQ.1 c2
      refine ev_aload_n (ev_o 21 o1) dL_law_1066 rfl rfl ?_
      refine ev_iconst (0) dL_law_1067 rfl ?_
      refine ev_laload dL_law_1068 ?_
      refine ev_iload (v2_) dL_law_1069 rfl ?_
      refine ev_i2l dL_law_1071 ?_
      refine ev_lcmp dL_law_1072 ?_
      refine ev_if_eq 1078 dL_law_1073 (by decide) (fun c3 => ?_) (fun c3 => ?_)
      · replace hQ := hQ.1 c3
        refine ev_goto 3142 dL_law_1078 (by decide) ?_
        refine ev_fgm [true, true, true, true, true, true, false, false, false, false] ?_
        exact hQ
      · replace hQ := hQ.2 c3
        refine ev_iconst (0) dL_law_1076 rfl ?_
        exact ev_ireturn .boolean dL_law_1077 rfl rfl hQ
  · replace hQ := hQ.2 c1
    refine ev_iconst (0) dL_law_1059 rfl ?_
    exact ev_ireturn .boolean dL_law_1060 rfl rfl hQ
set_option maxHeartbeats 4000000 in
set_option maxRecDepth 100000 in
theorem sg_L_law_1081 {g : ev_G} {S : ev_S} {Q : ev_O → ev_S → Prop} {B : Nat} (k0 a b o1 o2 : Nat) (u5 : Int32) (hQ : (vp_in (u5 + 1) (ev_sl g)) ∧ (
    (vp_in (u5 + 2) (ev_sl g)) ∧ (
      ev_Cv g m_L_movedFrom 5 2 [ev_o 9 a, ev_i (ev_sx g (u5 + 1).toNatClampNeg), ev_i (ev_sx g (u5 + 2).toNatClampNeg), ev_o 21 o1] S (fun o S1 => ∃ v1_ : Int32, o = .inl (some (ev_i v1_)) ∧ (
        ev_Cv g m_X10_movedFrom 4 0 [ev_o 10 b, ev_i (ev_sx g (u5 + 1).toNatClampNeg), ev_i (ev_sx g (u5 + 2).toNatClampNeg)] S1 (fun o S2 => ∃ v2_ : Int32, o = .inl (some (ev_i v2_)) ∧ (
          ((S2.1 b 7) = v1_ → (
            (v1_ = 0 → (
              ((lg_cmp S2.2.1 v2_.toInt64) = 0 → (
                ev_E g m_L_law 52 B 3142 [some (ev_x 0 k0), some (ev_o 9 a), some (ev_o 10 b), some (ev_o 21 o1), some (ev_o 22 o2), some (ev_i u5), none, none, none, none] [] S2 Q)) ∧
              (¬ ((lg_cmp S2.2.1 v2_.toInt64) = 0) → (
                Q (.inl (some (ev_i 0))) S2)))) ∧
            (¬ (v1_ = 0) → (
              ev_E g m_L_law 52 B 3142 [some (ev_x 0 k0), some (ev_o 9 a), some (ev_o 10 b), some (ev_o 21 o1), some (ev_o 22 o2), some (ev_i u5), none, none, none, none] [] S2 Q)))) ∧
          (¬ ((S2.1 b 7) = v1_) → (
            Q (.inl (some (ev_i 0))) S2))))))))) : ev_E g m_L_law 52 (B + 2) 1081 [some (ev_x 0 k0), some (ev_o 9 a), some (ev_o 10 b), some (ev_o 21 o1), some (ev_o 22 o2), some (ev_i u5), none, none, none, none] [] S Q := by
  refine ev_aload_n (ev_o 9 a) dL_law_1081 rfl rfl ?_
  refine ev_aload_n (ev_x 0 k0) dL_law_1082 rfl rfl ?_
  refine ev_iload (u5) dL_law_1083 rfl ?_
  refine ev_iconst (1) dL_law_1085 rfl ?_
  refine ev_iadd dL_law_1086 ?_
  obtain ⟨h1, hQ⟩ := hQ
  refine ev_sld dL_law_1087 h1 ?_
  refine ev_aload_n (ev_x 0 k0) dL_law_1088 rfl rfl ?_
  refine ev_iload (u5) dL_law_1089 rfl ?_
  refine ev_iconst (2) dL_law_1091 rfl ?_
  refine ev_iadd dL_law_1092 ?_
  obtain ⟨h2, hQ⟩ := hQ
  refine ev_sld dL_law_1093 h2 ?_
  refine ev_aload_n (ev_o 21 o1) dL_law_1094 rfl rfl ?_
  refine ev_cH mh_L_movedFrom 5 2 [ev_o 9 a, ev_i (ev_sx g (u5 + 1).toNatClampNeg), ev_i (ev_sx g (u5 + 2).toNatClampNeg), ev_o 21 o1] [] dL_law_1095 kw_1421 rfl (by decide) (by omega) (Nat.le_of_ble_eq_true rfl) hQ ?_ rfl
  rintro o S1 ⟨v1_, rfl, hQ⟩
  show ev_E g m_L_law 52 B 1098 [some (ev_x 0 k0), some (ev_o 9 a), some (ev_o 10 b), some (ev_o 21 o1), some (ev_o 22 o2), some (ev_i u5), none, none, none, none] [ev_i v1_] S1 Q
  refine ev_istore dL_law_1098 (Nat.le_of_ble_eq_true rfl) (ev_hw rfl) ?_
  show ev_E g m_L_law 52 B 1100 [some (ev_x 0 k0), some (ev_o 9 a), some (ev_o 10 b), some (ev_o 21 o1), some (ev_o 22 o2), some (ev_i u5), some (ev_i v1_), none, none, none] [] S1 Q
  refine ev_aload_n (ev_o 10 b) dL_law_1100 rfl rfl ?_
  refine ev_aload_n (ev_x 0 k0) dL_law_1101 rfl rfl ?_
  refine ev_iload (u5) dL_law_1102 rfl ?_
  refine ev_iconst (1) dL_law_1104 rfl ?_
  refine ev_iadd dL_law_1105 ?_
  refine ev_sld dL_law_1106 h1 ?_
  refine ev_aload_n (ev_x 0 k0) dL_law_1107 rfl rfl ?_
  refine ev_iload (u5) dL_law_1108 rfl ?_
  refine ev_iconst (2) dL_law_1110 rfl ?_
  refine ev_iadd dL_law_1111 ?_
  refine ev_sld dL_law_1112 h2 ?_
  refine ev_cV mv_X10_movedFrom 4 0 10 [ev_i (ev_sx g (u5 + 1).toNatClampNeg), ev_i (ev_sx g (u5 + 2).toNatClampNeg)] [] dL_law_1113 kw_2237 rfl (by decide) rfl (by decide) (by omega) (Nat.le_of_ble_eq_true rfl) hQ ?_ rfl
  rintro o S2 ⟨v2_, rfl, hQ⟩
  show ev_E g m_L_law 52 B 1116 [some (ev_x 0 k0), some (ev_o 9 a), some (ev_o 10 b), some (ev_o 21 o1), some (ev_o 22 o2), some (ev_i u5), some (ev_i v1_), none, none, none] [ev_i v2_] S2 Q
  refine ev_istore dL_law_1116 (Nat.le_of_ble_eq_true rfl) (ev_hw rfl) ?_
  show ev_E g m_L_law 52 B 1118 [some (ev_x 0 k0), some (ev_o 9 a), some (ev_o 10 b), some (ev_o 21 o1), some (ev_o 22 o2), some (ev_i u5), some (ev_i v1_), some (ev_i v2_), none, none] [] S2 Q
  refine ev_aload_n (ev_o 10 b) dL_law_1118 rfl rfl ?_
  refine ev_fV mv_X10_thrown 1 10 [] [] dL_law_1119 kw_1939 rfl (by decide) rfl (by decide) (Nat.le_of_ble_eq_true rfl) (sp_X10_thrown b) ?_ rfl
  refine ev_iload (v1_) dL_law_1122 rfl ?_
  refine ev_icmp_eq 1129 dL_law_1124 (by decide) (fun c1 => ?_) (fun c1 => ?_)
  · replace hQ := hQ.1 c1
    refine ev_iload (v1_) dL_law_1129 rfl ?_
    refine ev_if_ne 1146 dL_law_1131 (by decide) (fun c2 => ?_) (fun c2 => ?_)
    · replace hQ := hQ.2 c2
      refine ev_goto 3142 dL_law_1146 (by decide) ?_
      refine ev_fgm [true, true, true, true, true, true, false, false, false, false] ?_
      exact hQ
    · replace hQ := hQ.1 c2
      refine ev_aload_n (ev_o 21 o1) dL_law_1134 rfl rfl ?_
      refine ev_iconst (0) dL_law_1135 rfl ?_
      refine ev_laload dL_law_1136 ?_
      refine ev_iload (v2_) dL_law_1137 rfl ?_
      refine ev_i2l dL_law_1139 ?_
      refine ev_lcmp dL_law_1140 ?_
      refine ev_if_eq 1146 dL_law_1141 (by decide) (fun c3 => ?_) (fun c3 => ?_)
      · replace hQ := hQ.1 c3
        refine ev_goto 3142 dL_law_1146 (by decide) ?_
        refine ev_fgm [true, true, true, true, true, true, false, false, false, false] ?_
        exact hQ
      · replace hQ := hQ.2 c3
        refine ev_iconst (0) dL_law_1144 rfl ?_
        exact ev_ireturn .boolean dL_law_1145 rfl rfl hQ
  · replace hQ := hQ.2 c1
    refine ev_iconst (0) dL_law_1127 rfl ?_
    exact ev_ireturn .boolean dL_law_1128 rfl rfl hQ
set_option maxHeartbeats 4000000 in
set_option maxRecDepth 100000 in
theorem sg_L_law_1149 {g : ev_G} {S : ev_S} {Q : ev_O → ev_S → Prop} {B : Nat} (k0 a b o1 o2 : Nat) (u5 : Int32) (hQ : (vp_in (u5 + 1) (ev_sl g)) ∧ (
    (vp_in (u5 + 2) (ev_sl g)) ∧ (
      ev_Cv g m_L_movedTo 5 2 [ev_o 9 a, ev_i (ev_sx g (u5 + 1).toNatClampNeg), ev_i (ev_sx g (u5 + 2).toNatClampNeg), ev_o 21 o1] S (fun o S1 => ∃ v1_ : Int32, o = .inl (some (ev_i v1_)) ∧ (
        ev_Cv g m_X10_movedTo 4 0 [ev_o 10 b, ev_i (ev_sx g (u5 + 1).toNatClampNeg), ev_i (ev_sx g (u5 + 2).toNatClampNeg)] S1 (fun o S2 => ∃ v2_ : Int32, o = .inl (some (ev_i v2_)) ∧ (
          ((S2.1 b 7) = v1_ → (
            (v1_ = 0 → (
              ((lg_cmp S2.2.1 v2_.toInt64) = 0 → (
                ev_E g m_L_law 52 B 3142 [some (ev_x 0 k0), some (ev_o 9 a), some (ev_o 10 b), some (ev_o 21 o1), some (ev_o 22 o2), some (ev_i u5), none, none, none, none] [] S2 Q)) ∧
              (¬ ((lg_cmp S2.2.1 v2_.toInt64) = 0) → (
                Q (.inl (some (ev_i 0))) S2)))) ∧
            (¬ (v1_ = 0) → (
              ev_E g m_L_law 52 B 3142 [some (ev_x 0 k0), some (ev_o 9 a), some (ev_o 10 b), some (ev_o 21 o1), some (ev_o 22 o2), some (ev_i u5), none, none, none, none] [] S2 Q)))) ∧
          (¬ ((S2.1 b 7) = v1_) → (
            Q (.inl (some (ev_i 0))) S2))))))))) : ev_E g m_L_law 52 (B + 2) 1149 [some (ev_x 0 k0), some (ev_o 9 a), some (ev_o 10 b), some (ev_o 21 o1), some (ev_o 22 o2), some (ev_i u5), none, none, none, none] [] S Q := by
  refine ev_aload_n (ev_o 9 a) dL_law_1149 rfl rfl ?_
  refine ev_aload_n (ev_x 0 k0) dL_law_1150 rfl rfl ?_
  refine ev_iload (u5) dL_law_1151 rfl ?_
  refine ev_iconst (1) dL_law_1153 rfl ?_
  refine ev_iadd dL_law_1154 ?_
  obtain ⟨h1, hQ⟩ := hQ
  refine ev_sld dL_law_1155 h1 ?_
  refine ev_aload_n (ev_x 0 k0) dL_law_1156 rfl rfl ?_
  refine ev_iload (u5) dL_law_1157 rfl ?_
  refine ev_iconst (2) dL_law_1159 rfl ?_
  refine ev_iadd dL_law_1160 ?_
  obtain ⟨h2, hQ⟩ := hQ
  refine ev_sld dL_law_1161 h2 ?_
  refine ev_aload_n (ev_o 21 o1) dL_law_1162 rfl rfl ?_
  refine ev_cH mh_L_movedTo 5 2 [ev_o 9 a, ev_i (ev_sx g (u5 + 1).toNatClampNeg), ev_i (ev_sx g (u5 + 2).toNatClampNeg), ev_o 21 o1] [] dL_law_1163 kw_1451 rfl (by decide) (by omega) (Nat.le_of_ble_eq_true rfl) hQ ?_ rfl
  rintro o S1 ⟨v1_, rfl, hQ⟩
  show ev_E g m_L_law 52 B 1166 [some (ev_x 0 k0), some (ev_o 9 a), some (ev_o 10 b), some (ev_o 21 o1), some (ev_o 22 o2), some (ev_i u5), none, none, none, none] [ev_i v1_] S1 Q
  refine ev_istore dL_law_1166 (Nat.le_of_ble_eq_true rfl) (ev_hw rfl) ?_
  show ev_E g m_L_law 52 B 1168 [some (ev_x 0 k0), some (ev_o 9 a), some (ev_o 10 b), some (ev_o 21 o1), some (ev_o 22 o2), some (ev_i u5), some (ev_i v1_), none, none, none] [] S1 Q
  refine ev_aload_n (ev_o 10 b) dL_law_1168 rfl rfl ?_
  refine ev_aload_n (ev_x 0 k0) dL_law_1169 rfl rfl ?_
  refine ev_iload (u5) dL_law_1170 rfl ?_
  refine ev_iconst (1) dL_law_1172 rfl ?_
  refine ev_iadd dL_law_1173 ?_
  refine ev_sld dL_law_1174 h1 ?_
  refine ev_aload_n (ev_x 0 k0) dL_law_1175 rfl rfl ?_
  refine ev_iload (u5) dL_law_1176 rfl ?_
  refine ev_iconst (2) dL_law_1178 rfl ?_
  refine ev_iadd dL_law_1179 ?_
  refine ev_sld dL_law_1180 h2 ?_
  refine ev_cV mv_X10_movedTo 4 0 10 [ev_i (ev_sx g (u5 + 1).toNatClampNeg), ev_i (ev_sx g (u5 + 2).toNatClampNeg)] [] dL_law_1181 kw_2245 rfl (by decide) rfl (by decide) (by omega) (Nat.le_of_ble_eq_true rfl) hQ ?_ rfl
  rintro o S2 ⟨v2_, rfl, hQ⟩
  show ev_E g m_L_law 52 B 1184 [some (ev_x 0 k0), some (ev_o 9 a), some (ev_o 10 b), some (ev_o 21 o1), some (ev_o 22 o2), some (ev_i u5), some (ev_i v1_), none, none, none] [ev_i v2_] S2 Q
  refine ev_istore dL_law_1184 (Nat.le_of_ble_eq_true rfl) (ev_hw rfl) ?_
  show ev_E g m_L_law 52 B 1186 [some (ev_x 0 k0), some (ev_o 9 a), some (ev_o 10 b), some (ev_o 21 o1), some (ev_o 22 o2), some (ev_i u5), some (ev_i v1_), some (ev_i v2_), none, none] [] S2 Q
  refine ev_aload_n (ev_o 10 b) dL_law_1186 rfl rfl ?_
  refine ev_fV mv_X10_thrown 1 10 [] [] dL_law_1187 kw_1939 rfl (by decide) rfl (by decide) (Nat.le_of_ble_eq_true rfl) (sp_X10_thrown b) ?_ rfl
  refine ev_iload (v1_) dL_law_1190 rfl ?_
  refine ev_icmp_eq 1197 dL_law_1192 (by decide) (fun c1 => ?_) (fun c1 => ?_)
  · replace hQ := hQ.1 c1
    refine ev_iload (v1_) dL_law_1197 rfl ?_
    refine ev_if_ne 1214 dL_law_1199 (by decide) (fun c2 => ?_) (fun c2 => ?_)
    · replace hQ := hQ.2 c2
      refine ev_goto 3142 dL_law_1214 (by decide) ?_
      refine ev_fgm [true, true, true, true, true, true, false, false, false, false] ?_
      exact hQ
    · replace hQ := hQ.1 c2
      refine ev_aload_n (ev_o 21 o1) dL_law_1202 rfl rfl ?_
      refine ev_iconst (0) dL_law_1203 rfl ?_
      refine ev_laload dL_law_1204 ?_
      refine ev_iload (v2_) dL_law_1205 rfl ?_
      refine ev_i2l dL_law_1207 ?_
      refine ev_lcmp dL_law_1208 ?_
      refine ev_if_eq 1214 dL_law_1209 (by decide) (fun c3 => ?_) (fun c3 => ?_)
      · replace hQ := hQ.1 c3
        refine ev_goto 3142 dL_law_1214 (by decide) ?_
        refine ev_fgm [true, true, true, true, true, true, false, false, false, false] ?_
        exact hQ
      · replace hQ := hQ.2 c3
        refine ev_iconst (0) dL_law_1212 rfl ?_
        exact ev_ireturn .boolean dL_law_1213 rfl rfl hQ
  · replace hQ := hQ.2 c1
    refine ev_iconst (0) dL_law_1195 rfl ?_
    exact ev_ireturn .boolean dL_law_1196 rfl rfl hQ
set_option maxHeartbeats 4000000 in
set_option maxRecDepth 100000 in
theorem sg_L_law_1217 {g : ev_G} {S : ev_S} {Q : ev_O → ev_S → Prop} {B : Nat} (k0 a b o1 o2 : Nat) (u5 : Int32) (hQ : (vp_in (u5 + 1) (ev_sl g)) ∧ (
    ev_Cv g m_L_storedMoves 3 1 [ev_o 9 a, ev_i (ev_sx g (u5 + 1).toNatClampNeg), ev_o 21 o1] S (fun o S1 => ∃ v1_ : Int32, o = .inl (some (ev_i v1_)) ∧ (
      ev_Cv g m_X10_storedMoves 3 0 [ev_o 10 b, ev_i (ev_sx g (u5 + 1).toNatClampNeg)] S1 (fun o S2 => ∃ v2_ : Int32, o = .inl (some (ev_i v2_)) ∧ (
        ((S2.1 b 7) = v1_ → (
          (v1_ = 0 → (
            ((lg_cmp S2.2.1 v2_.toInt64) = 0 → (
              ev_E g m_L_law 52 (B + 1) 3142 [some (ev_x 0 k0), some (ev_o 9 a), some (ev_o 10 b), some (ev_o 21 o1), some (ev_o 22 o2), some (ev_i u5), none, none, none, none] [] S2 Q)) ∧
            (¬ ((lg_cmp S2.2.1 v2_.toInt64) = 0) → (
              Q (.inl (some (ev_i 0))) S2)))) ∧
          (¬ (v1_ = 0) → (
            ev_E g m_L_law 52 (B + 1) 3142 [some (ev_x 0 k0), some (ev_o 9 a), some (ev_o 10 b), some (ev_o 21 o1), some (ev_o 22 o2), some (ev_i u5), none, none, none, none] [] S2 Q)))) ∧
        (¬ ((S2.1 b 7) = v1_) → (
          Q (.inl (some (ev_i 0))) S2)))))))) : ev_E g m_L_law 52 (B + 2) 1217 [some (ev_x 0 k0), some (ev_o 9 a), some (ev_o 10 b), some (ev_o 21 o1), some (ev_o 22 o2), some (ev_i u5), none, none, none, none] [] S Q := by
  refine ev_aload_n (ev_o 9 a) dL_law_1217 rfl rfl ?_
  refine ev_aload_n (ev_x 0 k0) dL_law_1218 rfl rfl ?_
  refine ev_iload (u5) dL_law_1219 rfl ?_
  refine ev_iconst (1) dL_law_1221 rfl ?_
  refine ev_iadd dL_law_1222 ?_
  obtain ⟨h1, hQ⟩ := hQ
  refine ev_sld dL_law_1223 h1 ?_
  refine ev_aload_n (ev_o 21 o1) dL_law_1224 rfl rfl ?_
  refine ev_cH mh_L_storedMoves 3 1 [ev_o 9 a, ev_i (ev_sx g (u5 + 1).toNatClampNeg), ev_o 21 o1] [] dL_law_1225 kw_1459 rfl (by decide) (by omega) (Nat.le_of_ble_eq_true rfl) hQ ?_ rfl
  rintro o S1 ⟨v1_, rfl, hQ⟩
  show ev_E g m_L_law 52 (B + 1) 1228 [some (ev_x 0 k0), some (ev_o 9 a), some (ev_o 10 b), some (ev_o 21 o1), some (ev_o 22 o2), some (ev_i u5), none, none, none, none] [ev_i v1_] S1 Q
  refine ev_istore dL_law_1228 (Nat.le_of_ble_eq_true rfl) (ev_hw rfl) ?_
  show ev_E g m_L_law 52 (B + 1) 1230 [some (ev_x 0 k0), some (ev_o 9 a), some (ev_o 10 b), some (ev_o 21 o1), some (ev_o 22 o2), some (ev_i u5), some (ev_i v1_), none, none, none] [] S1 Q
  refine ev_aload_n (ev_o 10 b) dL_law_1230 rfl rfl ?_
  refine ev_aload_n (ev_x 0 k0) dL_law_1231 rfl rfl ?_
  refine ev_iload (u5) dL_law_1232 rfl ?_
  refine ev_iconst (1) dL_law_1234 rfl ?_
  refine ev_iadd dL_law_1235 ?_
  refine ev_sld dL_law_1236 h1 ?_
  refine ev_cV mv_X10_storedMoves 3 0 10 [ev_i (ev_sx g (u5 + 1).toNatClampNeg)] [] dL_law_1237 kw_2249 rfl (by decide) rfl (by decide) (by omega) (Nat.le_of_ble_eq_true rfl) hQ ?_ rfl
  rintro o S2 ⟨v2_, rfl, hQ⟩
  show ev_E g m_L_law 52 (B + 1) 1240 [some (ev_x 0 k0), some (ev_o 9 a), some (ev_o 10 b), some (ev_o 21 o1), some (ev_o 22 o2), some (ev_i u5), some (ev_i v1_), none, none, none] [ev_i v2_] S2 Q
  refine ev_istore dL_law_1240 (Nat.le_of_ble_eq_true rfl) (ev_hw rfl) ?_
  show ev_E g m_L_law 52 (B + 1) 1242 [some (ev_x 0 k0), some (ev_o 9 a), some (ev_o 10 b), some (ev_o 21 o1), some (ev_o 22 o2), some (ev_i u5), some (ev_i v1_), some (ev_i v2_), none, none] [] S2 Q
  refine ev_aload_n (ev_o 10 b) dL_law_1242 rfl rfl ?_
  refine ev_fV mv_X10_thrown 1 10 [] [] dL_law_1243 kw_1939 rfl (by decide) rfl (by decide) (Nat.le_of_ble_eq_true rfl) (sp_X10_thrown b) ?_ rfl
  refine ev_iload (v1_) dL_law_1246 rfl ?_
  refine ev_icmp_eq 1253 dL_law_1248 (by decide) (fun c1 => ?_) (fun c1 => ?_)
  · replace hQ := hQ.1 c1
    refine ev_iload (v1_) dL_law_1253 rfl ?_
    refine ev_if_ne 1270 dL_law_1255 (by decide) (fun c2 => ?_) (fun c2 => ?_)
    · replace hQ := hQ.2 c2
      refine ev_goto 3142 dL_law_1270 (by decide) ?_
      refine ev_fgm [true, true, true, true, true, true, false, false, false, false] ?_
      exact hQ
    · replace hQ := hQ.1 c2
      refine ev_aload_n (ev_o 21 o1) dL_law_1258 rfl rfl ?_
      refine ev_iconst (0) dL_law_1259 rfl ?_
      refine ev_laload dL_law_1260 ?_
      refine ev_iload (v2_) dL_law_1261 rfl ?_
      refine ev_i2l dL_law_1263 ?_
      refine ev_lcmp dL_law_1264 ?_
      refine ev_if_eq 1270 dL_law_1265 (by decide) (fun c3 => ?_) (fun c3 => ?_)
      · replace hQ := hQ.1 c3
        refine ev_goto 3142 dL_law_1270 (by decide) ?_
        refine ev_fgm [true, true, true, true, true, true, false, false, false, false] ?_
        exact hQ
      · replace hQ := hQ.2 c3
        refine ev_iconst (0) dL_law_1268 rfl ?_
        exact ev_ireturn .boolean dL_law_1269 rfl rfl hQ
  · replace hQ := hQ.2 c1
    refine ev_iconst (0) dL_law_1251 rfl ?_
    exact ev_ireturn .boolean dL_law_1252 rfl rfl hQ
set_option maxHeartbeats 4000000 in
set_option maxRecDepth 100000 in
theorem sg_L_law_1273 {g : ev_G} {S : ev_S} {Q : ev_O → ev_S → Prop} {B : Nat} (k0 a b o1 o2 : Nat) (u5 : Int32) (hQ : ev_Cv g m_X9_areBoardsEqual 5 0 [ev_o 9 a] S (fun o S1 => ∃ v1_ : Bool, o = .inl (some (ev_i (if v1_ = true then 1 else 0))) ∧ (
    (v1_ = true → (
      ev_Cv g m_X10_areBoardsEqual 3 0 [ev_o 10 b] S1 (fun o S2 => ∃ v2_ : Bool, o = .inl (some (ev_i (if v2_ = true then 1 else 0))) ∧ (
        (v2_ = true → (
          ev_E g m_L_law 52 (B + 2) 3142 [some (ev_x 0 k0), some (ev_o 9 a), some (ev_o 10 b), some (ev_o 21 o1), some (ev_o 22 o2), some (ev_i u5), none, none, none, none] [] S2 Q)) ∧
        (¬ (v2_ = true) → (
          Q (.inl (some (ev_i 0))) S2)))))) ∧
    (¬ (v1_ = true) → (
      ev_Cv g m_X10_areBoardsEqual 3 0 [ev_o 10 b] S1 (fun o S3 => ∃ v3_ : Bool, o = .inl (some (ev_i (if v3_ = true then 1 else 0))) ∧ (
        (v3_ = true → (
          Q (.inl (some (ev_i 0))) S3)) ∧
        (¬ (v3_ = true) → (
          ev_E g m_L_law 52 (B + 2) 3142 [some (ev_x 0 k0), some (ev_o 9 a), some (ev_o 10 b), some (ev_o 21 o1), some (ev_o 22 o2), some (ev_i u5), none, none, none, none] [] S3 Q))))))))) : ev_E g m_L_law 52 (B + 2) 1273 [some (ev_x 0 k0), some (ev_o 9 a), some (ev_o 10 b), some (ev_o 21 o1), some (ev_o 22 o2), some (ev_i u5), none, none, none, none] [] S Q := by
  refine ev_aload_n (ev_o 9 a) dL_law_1273 rfl rfl ?_
  refine ev_cV mv_X9_areBoardsEqual 5 0 9 [] [] dL_law_1274 kw_1117 rfl (by decide) rfl (by decide) (by omega) (Nat.le_of_ble_eq_true rfl) hQ ?_ rfl
  rintro o S1 ⟨v1_, rfl, hQ⟩
  show ev_E g m_L_law 52 (B + 2) 1277 [some (ev_x 0 k0), some (ev_o 9 a), some (ev_o 10 b), some (ev_o 21 o1), some (ev_o 22 o2), some (ev_i u5), none, none, none, none] [ev_i (if v1_ = true then 1 else 0)] S1 Q
  by_cases c1 : v1_ = true
  · rw [if_pos c1]
    replace hQ := hQ.1 c1
    refine ev_aload_n (ev_o 10 b) dL_law_1277 rfl rfl ?_
    refine ev_cV mv_X10_areBoardsEqual 3 0 10 [] [ev_i 1] dL_law_1278 kw_2257 rfl (by decide) rfl (by decide) (by omega) (Nat.le_of_ble_eq_true rfl) hQ ?_ rfl
    rintro o S2 ⟨v2_, rfl, hQ⟩
    show ev_E g m_L_law 52 (B + 2) 1281 [some (ev_x 0 k0), some (ev_o 9 a), some (ev_o 10 b), some (ev_o 21 o1), some (ev_o 22 o2), some (ev_i u5), none, none, none, none] [ev_i (if v2_ = true then 1 else 0), ev_i 1] S2 Q
    by_cases c2 : v2_ = true
    · rw [if_pos c2]
      replace hQ := hQ.1 c2
      refine ev_icmp_eq 3142 dL_law_1281 (by decide) (fun _ => ?_) (fun h9 => absurd (by decide : ((1 : Int32) = 1)) h9)
      exact hQ
    · rw [if_neg c2]
      replace hQ := hQ.2 c2
      refine ev_icmp_eq 3142 dL_law_1281 (by decide) (fun h9 => absurd h9 (by decide : ¬ ((1 : Int32) = 0))) (fun _ => ?_)
      refine ev_iconst (0) dL_law_1284 rfl ?_
      exact ev_ireturn .boolean dL_law_1285 rfl rfl hQ
  · rw [if_neg c1]
    replace hQ := hQ.2 c1
    refine ev_aload_n (ev_o 10 b) dL_law_1277 rfl rfl ?_
    refine ev_cV mv_X10_areBoardsEqual 3 0 10 [] [ev_i 0] dL_law_1278 kw_2257 rfl (by decide) rfl (by decide) (by omega) (Nat.le_of_ble_eq_true rfl) hQ ?_ rfl
    rintro o S3 ⟨v3_, rfl, hQ⟩
    show ev_E g m_L_law 52 (B + 2) 1281 [some (ev_x 0 k0), some (ev_o 9 a), some (ev_o 10 b), some (ev_o 21 o1), some (ev_o 22 o2), some (ev_i u5), none, none, none, none] [ev_i (if v3_ = true then 1 else 0), ev_i 0] S3 Q
    by_cases c3 : v3_ = true
    · rw [if_pos c3]
      replace hQ := hQ.1 c3
      refine ev_icmp_eq 3142 dL_law_1281 (by decide) (fun h9 => absurd h9 (by decide : ¬ ((0 : Int32) = 1))) (fun _ => ?_)
      refine ev_iconst (0) dL_law_1284 rfl ?_
      exact ev_ireturn .boolean dL_law_1285 rfl rfl hQ
    · rw [if_neg c3]
      replace hQ := hQ.2 c3
      refine ev_icmp_eq 3142 dL_law_1281 (by decide) (fun _ => ?_) (fun h9 => absurd (by decide : ((0 : Int32) = 0)) h9)
      exact hQ
set_option maxHeartbeats 4000000 in
set_option maxRecDepth 100000 in
theorem sg_L_law_1286 {g : ev_G} {S : ev_S} {Q : ev_O → ev_S → Prop} {B : Nat} (k0 a b o1 o2 : Nat) (u5 : Int32) (hQ : ∀ S1 : ev_S, S1 = (ev_up S b 7 0) → (
    ((S.1 (a + 31) 3) = (S.1 (b + 1) 3) → (
      ev_E g m_L_law 52 (B + 2) 3142 [some (ev_x 0 k0), some (ev_o 9 a), some (ev_o 10 b), some (ev_o 21 o1), some (ev_o 22 o2), some (ev_i u5), none, none, none, none] [] S1 Q)) ∧
    (¬ ((S.1 (a + 31) 3) = (S.1 (b + 1) 3)) → (
      Q (.inl (some (ev_i 0))) S1)))) : ev_E g m_L_law 52 (B + 2) 1286 [some (ev_x 0 k0), some (ev_o 9 a), some (ev_o 10 b), some (ev_o 21 o1), some (ev_o 22 o2), some (ev_i u5), none, none, none, none] [] S Q := by
  refine ev_aload_n (ev_o 9 a) dL_law_1286 rfl rfl ?_
  refine ev_fV mv_X9_passCount 3 9 [] [] dL_law_1287 kw_1129 rfl (by decide) rfl (by decide) (Nat.le_of_ble_eq_true rfl) (sp_X9_passCount a) ?_ rfl
  refine ev_aload_n (ev_o 10 b) dL_law_1290 rfl rfl ?_
  refine ev_fV mv_X10_passCount 1 10 [] [ev_i (S.1 (a + 31) 3)] dL_law_1291 kw_2265 rfl (by decide) rfl (by decide) (Nat.le_of_ble_eq_true rfl) (sp_X10_passCount b) ?_ rfl
  refine ev_sub hQ (fun S1 hS1 hQ => ?_)
  refine ev_E.goal (pc' := 1294) (L' := [some (ev_x 0 k0), some (ev_o 9 a), some (ev_o 10 b), some (ev_o 21 o1), some (ev_o 22 o2), some (ev_i u5), none, none, none, none]) (K' := [ev_i (S.1 (b + 1) 3), ev_i (S.1 (a + 31) 3)]) (S' := S1) ?_ rfl rfl rfl hS1
  refine ev_icmp_eq 3142 dL_law_1294 (by decide) (fun c1 => ?_) (fun c1 => ?_)
  · replace hQ := hQ.1 c1
    exact hQ
  · replace hQ := hQ.2 c1
    refine ev_iconst (0) dL_law_1297 rfl ?_
    exact ev_ireturn .boolean dL_law_1298 rfl rfl hQ
set_option maxHeartbeats 4000000 in
set_option maxRecDepth 100000 in
theorem sg_L_law_1299 {g : ev_G} {S : ev_S} {Q : ev_O → ev_S → Prop} {B : Nat} (k0 a b o1 o2 : Nat) (u5 : Int32) (hQ : (vp_in (u5 + 1) (ev_sl g)) ∧ (
    (vp_in (u5 + 2) (ev_sl g)) ∧ (
      ev_Cv g m_L_snowDepth 4 1 [ev_o 9 a, ev_i (ev_sx g (u5 + 1).toNatClampNeg), ev_i (ev_sx g (u5 + 2).toNatClampNeg), ev_o 21 o1] S (fun o S1 => ∃ v1_ : Int32, o = .inl (some (ev_i v1_)) ∧ (
        ev_Cv g m_X10_snowDepth 3 0 [ev_o 10 b, ev_i (ev_sx g (u5 + 1).toNatClampNeg), ev_i (ev_sx g (u5 + 2).toNatClampNeg)] S1 (fun o S2 => ∃ v2_ : Int32, o = .inl (some (ev_i v2_)) ∧ (
          ((S2.1 b 7) = v1_ → (
            (v1_ = 0 → (
              ((lg_cmp S2.2.1 v2_.toInt64) = 0 → (
                ev_E g m_L_law 52 (B + 1) 3142 [some (ev_x 0 k0), some (ev_o 9 a), some (ev_o 10 b), some (ev_o 21 o1), some (ev_o 22 o2), some (ev_i u5), none, none, none, none] [] S2 Q)) ∧
              (¬ ((lg_cmp S2.2.1 v2_.toInt64) = 0) → (
                Q (.inl (some (ev_i 0))) S2)))) ∧
            (¬ (v1_ = 0) → (
              ev_E g m_L_law 52 (B + 1) 3142 [some (ev_x 0 k0), some (ev_o 9 a), some (ev_o 10 b), some (ev_o 21 o1), some (ev_o 22 o2), some (ev_i u5), none, none, none, none] [] S2 Q)))) ∧
          (¬ ((S2.1 b 7) = v1_) → (
            Q (.inl (some (ev_i 0))) S2))))))))) : ev_E g m_L_law 52 (B + 2) 1299 [some (ev_x 0 k0), some (ev_o 9 a), some (ev_o 10 b), some (ev_o 21 o1), some (ev_o 22 o2), some (ev_i u5), none, none, none, none] [] S Q := by
  refine ev_aload_n (ev_o 9 a) dL_law_1299 rfl rfl ?_
  refine ev_aload_n (ev_x 0 k0) dL_law_1300 rfl rfl ?_
  refine ev_iload (u5) dL_law_1301 rfl ?_
  refine ev_iconst (1) dL_law_1303 rfl ?_
  refine ev_iadd dL_law_1304 ?_
  obtain ⟨h1, hQ⟩ := hQ
  refine ev_sld dL_law_1305 h1 ?_
  refine ev_aload_n (ev_x 0 k0) dL_law_1306 rfl rfl ?_
  refine ev_iload (u5) dL_law_1307 rfl ?_
  refine ev_iconst (2) dL_law_1309 rfl ?_
  refine ev_iadd dL_law_1310 ?_
  obtain ⟨h2, hQ⟩ := hQ
  refine ev_sld dL_law_1311 h2 ?_
  refine ev_aload_n (ev_o 21 o1) dL_law_1312 rfl rfl ?_
  refine ev_cH mh_L_snowDepth 4 1 [ev_o 9 a, ev_i (ev_sx g (u5 + 1).toNatClampNeg), ev_i (ev_sx g (u5 + 2).toNatClampNeg), ev_o 21 o1] [] dL_law_1313 kw_1470 rfl (by decide) (by omega) (Nat.le_of_ble_eq_true rfl) hQ ?_ rfl
  rintro o S1 ⟨v1_, rfl, hQ⟩
  show ev_E g m_L_law 52 (B + 1) 1316 [some (ev_x 0 k0), some (ev_o 9 a), some (ev_o 10 b), some (ev_o 21 o1), some (ev_o 22 o2), some (ev_i u5), none, none, none, none] [ev_i v1_] S1 Q
  refine ev_istore dL_law_1316 (Nat.le_of_ble_eq_true rfl) (ev_hw rfl) ?_
  show ev_E g m_L_law 52 (B + 1) 1318 [some (ev_x 0 k0), some (ev_o 9 a), some (ev_o 10 b), some (ev_o 21 o1), some (ev_o 22 o2), some (ev_i u5), some (ev_i v1_), none, none, none] [] S1 Q
  refine ev_aload_n (ev_o 10 b) dL_law_1318 rfl rfl ?_
  refine ev_aload_n (ev_x 0 k0) dL_law_1319 rfl rfl ?_
  refine ev_iload (u5) dL_law_1320 rfl ?_
  refine ev_iconst (1) dL_law_1322 rfl ?_
  refine ev_iadd dL_law_1323 ?_
  refine ev_sld dL_law_1324 h1 ?_
  refine ev_aload_n (ev_x 0 k0) dL_law_1325 rfl rfl ?_
  refine ev_iload (u5) dL_law_1326 rfl ?_
  refine ev_iconst (2) dL_law_1328 rfl ?_
  refine ev_iadd dL_law_1329 ?_
  refine ev_sld dL_law_1330 h2 ?_
  refine ev_cV mv_X10_snowDepth 3 0 10 [ev_i (ev_sx g (u5 + 1).toNatClampNeg), ev_i (ev_sx g (u5 + 2).toNatClampNeg)] [] dL_law_1331 kw_2269 rfl (by decide) rfl (by decide) (by omega) (Nat.le_of_ble_eq_true rfl) hQ ?_ rfl
  rintro o S2 ⟨v2_, rfl, hQ⟩
  show ev_E g m_L_law 52 (B + 1) 1334 [some (ev_x 0 k0), some (ev_o 9 a), some (ev_o 10 b), some (ev_o 21 o1), some (ev_o 22 o2), some (ev_i u5), some (ev_i v1_), none, none, none] [ev_i v2_] S2 Q
  refine ev_istore dL_law_1334 (Nat.le_of_ble_eq_true rfl) (ev_hw rfl) ?_
  show ev_E g m_L_law 52 (B + 1) 1336 [some (ev_x 0 k0), some (ev_o 9 a), some (ev_o 10 b), some (ev_o 21 o1), some (ev_o 22 o2), some (ev_i u5), some (ev_i v1_), some (ev_i v2_), none, none] [] S2 Q
  refine ev_aload_n (ev_o 10 b) dL_law_1336 rfl rfl ?_
  refine ev_fV mv_X10_thrown 1 10 [] [] dL_law_1337 kw_1939 rfl (by decide) rfl (by decide) (Nat.le_of_ble_eq_true rfl) (sp_X10_thrown b) ?_ rfl
  refine ev_iload (v1_) dL_law_1340 rfl ?_
  refine ev_icmp_eq 1347 dL_law_1342 (by decide) (fun c1 => ?_) (fun c1 => ?_)
  · replace hQ := hQ.1 c1
    refine ev_iload (v1_) dL_law_1347 rfl ?_
    refine ev_if_ne 1364 dL_law_1349 (by decide) (fun c2 => ?_) (fun c2 => ?_)
    · replace hQ := hQ.2 c2
      refine ev_goto 3142 dL_law_1364 (by decide) ?_
      refine ev_fgm [true, true, true, true, true, true, false, false, false, false] ?_
      exact hQ
    · replace hQ := hQ.1 c2
      refine ev_aload_n (ev_o 21 o1) dL_law_1352 rfl rfl ?_
      refine ev_iconst (0) dL_law_1353 rfl ?_
      refine ev_laload dL_law_1354 ?_
      refine ev_iload (v2_) dL_law_1355 rfl ?_
      refine ev_i2l dL_law_1357 ?_
      refine ev_lcmp dL_law_1358 ?_
      refine ev_if_eq 1364 dL_law_1359 (by decide) (fun c3 => ?_) (fun c3 => ?_)
      · replace hQ := hQ.1 c3
        refine ev_goto 3142 dL_law_1364 (by decide) ?_
        refine ev_fgm [true, true, true, true, true, true, false, false, false, false] ?_
        exact hQ
      · replace hQ := hQ.2 c3
        refine ev_iconst (0) dL_law_1362 rfl ?_
        exact ev_ireturn .boolean dL_law_1363 rfl rfl hQ
  · replace hQ := hQ.2 c1
    refine ev_iconst (0) dL_law_1345 rfl ?_
    exact ev_ireturn .boolean dL_law_1346 rfl rfl hQ
set_option maxHeartbeats 4000000 in
set_option maxRecDepth 100000 in
theorem sg_L_law_1367 {g : ev_G} {S : ev_S} {Q : ev_O → ev_S → Prop} {B : Nat} (k0 a b o1 o2 : Nat) (u5 : Int32) (hQ : (vp_in (u5 + 1) (ev_sl g)) ∧ (
    ev_Cv g m_L_travelDays 5 1 [ev_o 9 a, ev_i (ev_sx g (u5 + 1).toNatClampNeg), ev_o 21 o1] S (fun o S1 => ∃ v1_ : Int32, o = .inl (some (ev_i v1_)) ∧ (
      ev_Cv g m_X10_travelDays 4 0 [ev_o 10 b, ev_i (ev_sx g (u5 + 1).toNatClampNeg)] S1 (fun o S2 => ∃ v2_ : Int32, o = .inl (some (ev_i v2_)) ∧ (
        ((S2.1 b 7) = v1_ → (
          (v1_ = 0 → (
            ((lg_cmp S2.2.1 v2_.toInt64) = 0 → (
              ev_E g m_L_law 52 (B + 1) 3142 [some (ev_x 0 k0), some (ev_o 9 a), some (ev_o 10 b), some (ev_o 21 o1), some (ev_o 22 o2), some (ev_i u5), none, none, none, none] [] S2 Q)) ∧
            (¬ ((lg_cmp S2.2.1 v2_.toInt64) = 0) → (
              Q (.inl (some (ev_i 0))) S2)))) ∧
          (¬ (v1_ = 0) → (
            ev_E g m_L_law 52 (B + 1) 3142 [some (ev_x 0 k0), some (ev_o 9 a), some (ev_o 10 b), some (ev_o 21 o1), some (ev_o 22 o2), some (ev_i u5), none, none, none, none] [] S2 Q)))) ∧
        (¬ ((S2.1 b 7) = v1_) → (
          Q (.inl (some (ev_i 0))) S2)))))))) : ev_E g m_L_law 52 (B + 2) 1367 [some (ev_x 0 k0), some (ev_o 9 a), some (ev_o 10 b), some (ev_o 21 o1), some (ev_o 22 o2), some (ev_i u5), none, none, none, none] [] S Q := by
  refine ev_aload_n (ev_o 9 a) dL_law_1367 rfl rfl ?_
  refine ev_aload_n (ev_x 0 k0) dL_law_1368 rfl rfl ?_
  refine ev_iload (u5) dL_law_1369 rfl ?_
  refine ev_iconst (1) dL_law_1371 rfl ?_
  refine ev_iadd dL_law_1372 ?_
  obtain ⟨h1, hQ⟩ := hQ
  refine ev_sld dL_law_1373 h1 ?_
  refine ev_aload_n (ev_o 21 o1) dL_law_1374 rfl rfl ?_
  refine ev_cH mh_L_travelDays 5 1 [ev_o 9 a, ev_i (ev_sx g (u5 + 1).toNatClampNeg), ev_o 21 o1] [] dL_law_1375 kw_1480 rfl (by decide) (by omega) (Nat.le_of_ble_eq_true rfl) hQ ?_ rfl
  rintro o S1 ⟨v1_, rfl, hQ⟩
  show ev_E g m_L_law 52 (B + 1) 1378 [some (ev_x 0 k0), some (ev_o 9 a), some (ev_o 10 b), some (ev_o 21 o1), some (ev_o 22 o2), some (ev_i u5), none, none, none, none] [ev_i v1_] S1 Q
  refine ev_istore dL_law_1378 (Nat.le_of_ble_eq_true rfl) (ev_hw rfl) ?_
  show ev_E g m_L_law 52 (B + 1) 1380 [some (ev_x 0 k0), some (ev_o 9 a), some (ev_o 10 b), some (ev_o 21 o1), some (ev_o 22 o2), some (ev_i u5), some (ev_i v1_), none, none, none] [] S1 Q
  refine ev_aload_n (ev_o 10 b) dL_law_1380 rfl rfl ?_
  refine ev_aload_n (ev_x 0 k0) dL_law_1381 rfl rfl ?_
  refine ev_iload (u5) dL_law_1382 rfl ?_
  refine ev_iconst (1) dL_law_1384 rfl ?_
  refine ev_iadd dL_law_1385 ?_
  refine ev_sld dL_law_1386 h1 ?_
  refine ev_cV mv_X10_travelDays 4 0 10 [ev_i (ev_sx g (u5 + 1).toNatClampNeg)] [] dL_law_1387 kw_2273 rfl (by decide) rfl (by decide) (by omega) (Nat.le_of_ble_eq_true rfl) hQ ?_ rfl
  rintro o S2 ⟨v2_, rfl, hQ⟩
  show ev_E g m_L_law 52 (B + 1) 1390 [some (ev_x 0 k0), some (ev_o 9 a), some (ev_o 10 b), some (ev_o 21 o1), some (ev_o 22 o2), some (ev_i u5), some (ev_i v1_), none, none, none] [ev_i v2_] S2 Q
  refine ev_istore dL_law_1390 (Nat.le_of_ble_eq_true rfl) (ev_hw rfl) ?_
  show ev_E g m_L_law 52 (B + 1) 1392 [some (ev_x 0 k0), some (ev_o 9 a), some (ev_o 10 b), some (ev_o 21 o1), some (ev_o 22 o2), some (ev_i u5), some (ev_i v1_), some (ev_i v2_), none, none] [] S2 Q
  refine ev_aload_n (ev_o 10 b) dL_law_1392 rfl rfl ?_
  refine ev_fV mv_X10_thrown 1 10 [] [] dL_law_1393 kw_1939 rfl (by decide) rfl (by decide) (Nat.le_of_ble_eq_true rfl) (sp_X10_thrown b) ?_ rfl
  refine ev_iload (v1_) dL_law_1396 rfl ?_
  refine ev_icmp_eq 1403 dL_law_1398 (by decide) (fun c1 => ?_) (fun c1 => ?_)
  · replace hQ := hQ.1 c1
    refine ev_iload (v1_) dL_law_1403 rfl ?_
    refine ev_if_ne 1420 dL_law_1405 (by decide) (fun c2 => ?_) (fun c2 => ?_)
    · replace hQ := hQ.2 c2
      refine ev_goto 3142 dL_law_1420 (by decide) ?_
      refine ev_fgm [true, true, true, true, true, true, false, false, false, false] ?_
      exact hQ
    · replace hQ := hQ.1 c2
      refine ev_aload_n (ev_o 21 o1) dL_law_1408 rfl rfl ?_
      refine ev_iconst (0) dL_law_1409 rfl ?_
      refine ev_laload dL_law_1410 ?_
      refine ev_iload (v2_) dL_law_1411 rfl ?_
      refine ev_i2l dL_law_1413 ?_
      refine ev_lcmp dL_law_1414 ?_
      refine ev_if_eq 1420 dL_law_1415 (by decide) (fun c3 => ?_) (fun c3 => ?_)
      · replace hQ := hQ.1 c3
        refine ev_goto 3142 dL_law_1420 (by decide) ?_
        refine ev_fgm [true, true, true, true, true, true, false, false, false, false] ?_
        exact hQ
      · replace hQ := hQ.2 c3
        refine ev_iconst (0) dL_law_1418 rfl ?_
        exact ev_ireturn .boolean dL_law_1419 rfl rfl hQ
  · replace hQ := hQ.2 c1
    refine ev_iconst (0) dL_law_1401 rfl ?_
    exact ev_ireturn .boolean dL_law_1402 rfl rfl hQ
set_option maxHeartbeats 4000000 in
set_option maxRecDepth 100000 in
theorem sg_L_law_1423 {g : ev_G} {S : ev_S} {Q : ev_O → ev_S → Prop} {B : Nat} (k0 a b o1 o2 : Nat) (u5 : Int32) (hQ : (vp_in (u5 + 1) (ev_sl g)) ∧ (
    (vp_in (u5 + 2) (ev_sl g)) ∧ (
      ev_Cv g m_L_mules 4 1 [ev_o 9 a, ev_i (ev_sx g (u5 + 1).toNatClampNeg), ev_i (ev_sx g (u5 + 2).toNatClampNeg), ev_o 21 o1] S (fun o S1 => ∃ v1_ : Int32, o = .inl (some (ev_i v1_)) ∧ (
        ev_Cv g m_X10_mules 3 0 [ev_o 10 b, ev_i (ev_sx g (u5 + 1).toNatClampNeg), ev_i (ev_sx g (u5 + 2).toNatClampNeg)] S1 (fun o S2 => ∃ v2_ : Int32, o = .inl (some (ev_i v2_)) ∧ (
          ((S2.1 b 7) = v1_ → (
            (v1_ = 0 → (
              ((lg_cmp S2.2.1 v2_.toInt64) = 0 → (
                ev_E g m_L_law 52 (B + 1) 3142 [some (ev_x 0 k0), some (ev_o 9 a), some (ev_o 10 b), some (ev_o 21 o1), some (ev_o 22 o2), some (ev_i u5), none, none, none, none] [] S2 Q)) ∧
              (¬ ((lg_cmp S2.2.1 v2_.toInt64) = 0) → (
                Q (.inl (some (ev_i 0))) S2)))) ∧
            (¬ (v1_ = 0) → (
              ev_E g m_L_law 52 (B + 1) 3142 [some (ev_x 0 k0), some (ev_o 9 a), some (ev_o 10 b), some (ev_o 21 o1), some (ev_o 22 o2), some (ev_i u5), none, none, none, none] [] S2 Q)))) ∧
          (¬ ((S2.1 b 7) = v1_) → (
            Q (.inl (some (ev_i 0))) S2))))))))) : ev_E g m_L_law 52 (B + 2) 1423 [some (ev_x 0 k0), some (ev_o 9 a), some (ev_o 10 b), some (ev_o 21 o1), some (ev_o 22 o2), some (ev_i u5), none, none, none, none] [] S Q := by
  refine ev_aload_n (ev_o 9 a) dL_law_1423 rfl rfl ?_
  refine ev_aload_n (ev_x 0 k0) dL_law_1424 rfl rfl ?_
  refine ev_iload (u5) dL_law_1425 rfl ?_
  refine ev_iconst (1) dL_law_1427 rfl ?_
  refine ev_iadd dL_law_1428 ?_
  obtain ⟨h1, hQ⟩ := hQ
  refine ev_sld dL_law_1429 h1 ?_
  refine ev_aload_n (ev_x 0 k0) dL_law_1430 rfl rfl ?_
  refine ev_iload (u5) dL_law_1431 rfl ?_
  refine ev_iconst (2) dL_law_1433 rfl ?_
  refine ev_iadd dL_law_1434 ?_
  obtain ⟨h2, hQ⟩ := hQ
  refine ev_sld dL_law_1435 h2 ?_
  refine ev_aload_n (ev_o 21 o1) dL_law_1436 rfl rfl ?_
  refine ev_cH mh_L_mules 4 1 [ev_o 9 a, ev_i (ev_sx g (u5 + 1).toNatClampNeg), ev_i (ev_sx g (u5 + 2).toNatClampNeg), ev_o 21 o1] [] dL_law_1437 kw_1488 rfl (by decide) (by omega) (Nat.le_of_ble_eq_true rfl) hQ ?_ rfl
  rintro o S1 ⟨v1_, rfl, hQ⟩
  show ev_E g m_L_law 52 (B + 1) 1440 [some (ev_x 0 k0), some (ev_o 9 a), some (ev_o 10 b), some (ev_o 21 o1), some (ev_o 22 o2), some (ev_i u5), none, none, none, none] [ev_i v1_] S1 Q
  refine ev_istore dL_law_1440 (Nat.le_of_ble_eq_true rfl) (ev_hw rfl) ?_
  show ev_E g m_L_law 52 (B + 1) 1442 [some (ev_x 0 k0), some (ev_o 9 a), some (ev_o 10 b), some (ev_o 21 o1), some (ev_o 22 o2), some (ev_i u5), some (ev_i v1_), none, none, none] [] S1 Q
  refine ev_aload_n (ev_o 10 b) dL_law_1442 rfl rfl ?_
  refine ev_aload_n (ev_x 0 k0) dL_law_1443 rfl rfl ?_
  refine ev_iload (u5) dL_law_1444 rfl ?_
  refine ev_iconst (1) dL_law_1446 rfl ?_
  refine ev_iadd dL_law_1447 ?_
  refine ev_sld dL_law_1448 h1 ?_
  refine ev_aload_n (ev_x 0 k0) dL_law_1449 rfl rfl ?_
  refine ev_iload (u5) dL_law_1450 rfl ?_
  refine ev_iconst (2) dL_law_1452 rfl ?_
  refine ev_iadd dL_law_1453 ?_
  refine ev_sld dL_law_1454 h2 ?_
  refine ev_cV mv_X10_mules 3 0 10 [ev_i (ev_sx g (u5 + 1).toNatClampNeg), ev_i (ev_sx g (u5 + 2).toNatClampNeg)] [] dL_law_1455 kw_2277 rfl (by decide) rfl (by decide) (by omega) (Nat.le_of_ble_eq_true rfl) hQ ?_ rfl
  rintro o S2 ⟨v2_, rfl, hQ⟩
  show ev_E g m_L_law 52 (B + 1) 1458 [some (ev_x 0 k0), some (ev_o 9 a), some (ev_o 10 b), some (ev_o 21 o1), some (ev_o 22 o2), some (ev_i u5), some (ev_i v1_), none, none, none] [ev_i v2_] S2 Q
  refine ev_istore dL_law_1458 (Nat.le_of_ble_eq_true rfl) (ev_hw rfl) ?_
  show ev_E g m_L_law 52 (B + 1) 1460 [some (ev_x 0 k0), some (ev_o 9 a), some (ev_o 10 b), some (ev_o 21 o1), some (ev_o 22 o2), some (ev_i u5), some (ev_i v1_), some (ev_i v2_), none, none] [] S2 Q
  refine ev_aload_n (ev_o 10 b) dL_law_1460 rfl rfl ?_
  refine ev_fV mv_X10_thrown 1 10 [] [] dL_law_1461 kw_1939 rfl (by decide) rfl (by decide) (Nat.le_of_ble_eq_true rfl) (sp_X10_thrown b) ?_ rfl
  refine ev_iload (v1_) dL_law_1464 rfl ?_
  refine ev_icmp_eq 1471 dL_law_1466 (by decide) (fun c1 => ?_) (fun c1 => ?_)
  · replace hQ := hQ.1 c1
    refine ev_iload (v1_) dL_law_1471 rfl ?_
    refine ev_if_ne 1488 dL_law_1473 (by decide) (fun c2 => ?_) (fun c2 => ?_)
    · replace hQ := hQ.2 c2
      refine ev_goto 3142 dL_law_1488 (by decide) ?_
      refine ev_fgm [true, true, true, true, true, true, false, false, false, false] ?_
      exact hQ
    · replace hQ := hQ.1 c2
      refine ev_aload_n (ev_o 21 o1) dL_law_1476 rfl rfl ?_
      refine ev_iconst (0) dL_law_1477 rfl ?_
      refine ev_laload dL_law_1478 ?_
      refine ev_iload (v2_) dL_law_1479 rfl ?_
      refine ev_i2l dL_law_1481 ?_
      refine ev_lcmp dL_law_1482 ?_
      refine ev_if_eq 1488 dL_law_1483 (by decide) (fun c3 => ?_) (fun c3 => ?_)
      · replace hQ := hQ.1 c3
        refine ev_goto 3142 dL_law_1488 (by decide) ?_
        refine ev_fgm [true, true, true, true, true, true, false, false, false, false] ?_
        exact hQ
      · replace hQ := hQ.2 c3
        refine ev_iconst (0) dL_law_1486 rfl ?_
        exact ev_ireturn .boolean dL_law_1487 rfl rfl hQ
  · replace hQ := hQ.2 c1
    refine ev_iconst (0) dL_law_1469 rfl ?_
    exact ev_ireturn .boolean dL_law_1470 rfl rfl hQ
set_option maxHeartbeats 4000000 in
set_option maxRecDepth 100000 in
theorem sg_L_law_1491 {g : ev_G} {S : ev_S} {Q : ev_O → ev_S → Prop} {B : Nat} (k0 a b o1 o2 : Nat) (u5 : Int32) (hQ : (vp_in (u5 + 1) (ev_sl g)) ∧ (
    (vp_in (u5 + 2) (ev_sl g)) ∧ (
      ev_Cv g m_L_queueLength 4 1 [ev_o 9 a, ev_i (ev_sx g (u5 + 1).toNatClampNeg), ev_i (ev_sx g (u5 + 2).toNatClampNeg), ev_o 21 o1] S (fun o S1 => ∃ v1_ : Int32, o = .inl (some (ev_i v1_)) ∧ (
        ev_Cv g m_X10_queueLength 3 0 [ev_o 10 b, ev_i (ev_sx g (u5 + 1).toNatClampNeg), ev_i (ev_sx g (u5 + 2).toNatClampNeg)] S1 (fun o S2 => ∃ v2_ : Int32, o = .inl (some (ev_i v2_)) ∧ (
          ((S2.1 b 7) = v1_ → (
            (v1_ = 0 → (
              ((lg_cmp S2.2.1 v2_.toInt64) = 0 → (
                ev_E g m_L_law 52 (B + 1) 3142 [some (ev_x 0 k0), some (ev_o 9 a), some (ev_o 10 b), some (ev_o 21 o1), some (ev_o 22 o2), some (ev_i u5), none, none, none, none] [] S2 Q)) ∧
              (¬ ((lg_cmp S2.2.1 v2_.toInt64) = 0) → (
                Q (.inl (some (ev_i 0))) S2)))) ∧
            (¬ (v1_ = 0) → (
              ev_E g m_L_law 52 (B + 1) 3142 [some (ev_x 0 k0), some (ev_o 9 a), some (ev_o 10 b), some (ev_o 21 o1), some (ev_o 22 o2), some (ev_i u5), none, none, none, none] [] S2 Q)))) ∧
          (¬ ((S2.1 b 7) = v1_) → (
            Q (.inl (some (ev_i 0))) S2))))))))) : ev_E g m_L_law 52 (B + 2) 1491 [some (ev_x 0 k0), some (ev_o 9 a), some (ev_o 10 b), some (ev_o 21 o1), some (ev_o 22 o2), some (ev_i u5), none, none, none, none] [] S Q := by
  refine ev_aload_n (ev_o 9 a) dL_law_1491 rfl rfl ?_
  refine ev_aload_n (ev_x 0 k0) dL_law_1492 rfl rfl ?_
  refine ev_iload (u5) dL_law_1493 rfl ?_
  refine ev_iconst (1) dL_law_1495 rfl ?_
  refine ev_iadd dL_law_1496 ?_
  obtain ⟨h1, hQ⟩ := hQ
  refine ev_sld dL_law_1497 h1 ?_
  refine ev_aload_n (ev_x 0 k0) dL_law_1498 rfl rfl ?_
  refine ev_iload (u5) dL_law_1499 rfl ?_
  refine ev_iconst (2) dL_law_1501 rfl ?_
  refine ev_iadd dL_law_1502 ?_
  obtain ⟨h2, hQ⟩ := hQ
  refine ev_sld dL_law_1503 h2 ?_
  refine ev_aload_n (ev_o 21 o1) dL_law_1504 rfl rfl ?_
  refine ev_cH mh_L_queueLength 4 1 [ev_o 9 a, ev_i (ev_sx g (u5 + 1).toNatClampNeg), ev_i (ev_sx g (u5 + 2).toNatClampNeg), ev_o 21 o1] [] dL_law_1505 kw_1496 rfl (by decide) (by omega) (Nat.le_of_ble_eq_true rfl) hQ ?_ rfl
  rintro o S1 ⟨v1_, rfl, hQ⟩
  show ev_E g m_L_law 52 (B + 1) 1508 [some (ev_x 0 k0), some (ev_o 9 a), some (ev_o 10 b), some (ev_o 21 o1), some (ev_o 22 o2), some (ev_i u5), none, none, none, none] [ev_i v1_] S1 Q
  refine ev_istore dL_law_1508 (Nat.le_of_ble_eq_true rfl) (ev_hw rfl) ?_
  show ev_E g m_L_law 52 (B + 1) 1510 [some (ev_x 0 k0), some (ev_o 9 a), some (ev_o 10 b), some (ev_o 21 o1), some (ev_o 22 o2), some (ev_i u5), some (ev_i v1_), none, none, none] [] S1 Q
  refine ev_aload_n (ev_o 10 b) dL_law_1510 rfl rfl ?_
  refine ev_aload_n (ev_x 0 k0) dL_law_1511 rfl rfl ?_
  refine ev_iload (u5) dL_law_1512 rfl ?_
  refine ev_iconst (1) dL_law_1514 rfl ?_
  refine ev_iadd dL_law_1515 ?_
  refine ev_sld dL_law_1516 h1 ?_
  refine ev_aload_n (ev_x 0 k0) dL_law_1517 rfl rfl ?_
  refine ev_iload (u5) dL_law_1518 rfl ?_
  refine ev_iconst (2) dL_law_1520 rfl ?_
  refine ev_iadd dL_law_1521 ?_
  refine ev_sld dL_law_1522 h2 ?_
  refine ev_cV mv_X10_queueLength 3 0 10 [ev_i (ev_sx g (u5 + 1).toNatClampNeg), ev_i (ev_sx g (u5 + 2).toNatClampNeg)] [] dL_law_1523 kw_2281 rfl (by decide) rfl (by decide) (by omega) (Nat.le_of_ble_eq_true rfl) hQ ?_ rfl
  rintro o S2 ⟨v2_, rfl, hQ⟩
  show ev_E g m_L_law 52 (B + 1) 1526 [some (ev_x 0 k0), some (ev_o 9 a), some (ev_o 10 b), some (ev_o 21 o1), some (ev_o 22 o2), some (ev_i u5), some (ev_i v1_), none, none, none] [ev_i v2_] S2 Q
  refine ev_istore dL_law_1526 (Nat.le_of_ble_eq_true rfl) (ev_hw rfl) ?_
  show ev_E g m_L_law 52 (B + 1) 1528 [some (ev_x 0 k0), some (ev_o 9 a), some (ev_o 10 b), some (ev_o 21 o1), some (ev_o 22 o2), some (ev_i u5), some (ev_i v1_), some (ev_i v2_), none, none] [] S2 Q
  refine ev_aload_n (ev_o 10 b) dL_law_1528 rfl rfl ?_
  refine ev_fV mv_X10_thrown 1 10 [] [] dL_law_1529 kw_1939 rfl (by decide) rfl (by decide) (Nat.le_of_ble_eq_true rfl) (sp_X10_thrown b) ?_ rfl
  refine ev_iload (v1_) dL_law_1532 rfl ?_
  refine ev_icmp_eq 1539 dL_law_1534 (by decide) (fun c1 => ?_) (fun c1 => ?_)
  · replace hQ := hQ.1 c1
    refine ev_iload (v1_) dL_law_1539 rfl ?_
    refine ev_if_ne 1556 dL_law_1541 (by decide) (fun c2 => ?_) (fun c2 => ?_)
    · replace hQ := hQ.2 c2
      refine ev_goto 3142 dL_law_1556 (by decide) ?_
      refine ev_fgm [true, true, true, true, true, true, false, false, false, false] ?_
      exact hQ
    · replace hQ := hQ.1 c2
      refine ev_aload_n (ev_o 21 o1) dL_law_1544 rfl rfl ?_
      refine ev_iconst (0) dL_law_1545 rfl ?_
      refine ev_laload dL_law_1546 ?_
      refine ev_iload (v2_) dL_law_1547 rfl ?_
      refine ev_i2l dL_law_1549 ?_
      refine ev_lcmp dL_law_1550 ?_
      refine ev_if_eq 1556 dL_law_1551 (by decide) (fun c3 => ?_) (fun c3 => ?_)
      · replace hQ := hQ.1 c3
        refine ev_goto 3142 dL_law_1556 (by decide) ?_
        refine ev_fgm [true, true, true, true, true, true, false, false, false, false] ?_
        exact hQ
      · replace hQ := hQ.2 c3
        refine ev_iconst (0) dL_law_1554 rfl ?_
        exact ev_ireturn .boolean dL_law_1555 rfl rfl hQ
  · replace hQ := hQ.2 c1
    refine ev_iconst (0) dL_law_1537 rfl ?_
    exact ev_ireturn .boolean dL_law_1538 rfl rfl hQ
set_option maxHeartbeats 4000000 in
set_option maxRecDepth 100000 in
theorem sg_L_law_1559 {g : ev_G} {S : ev_S} {Q : ev_O → ev_S → Prop} {B : Nat} (k0 a b o1 o2 : Nat) (u5 : Int32) (hQ : ∀ S1 : ev_S, S1 = (ev_up S b 7 0) → (
    ((S.1 (a + 30) 13) = (S.1 (b + 1) 4) → (
      ev_E g m_L_law 52 (B + 2) 3142 [some (ev_x 0 k0), some (ev_o 9 a), some (ev_o 10 b), some (ev_o 21 o1), some (ev_o 22 o2), some (ev_i u5), none, none, none, none] [] S1 Q)) ∧
    (¬ ((S.1 (a + 30) 13) = (S.1 (b + 1) 4)) → (
      Q (.inl (some (ev_i 0))) S1)))) : ev_E g m_L_law 52 (B + 2) 1559 [some (ev_x 0 k0), some (ev_o 9 a), some (ev_o 10 b), some (ev_o 21 o1), some (ev_o 22 o2), some (ev_i u5), none, none, none, none] [] S Q := by
  refine ev_aload_n (ev_o 9 a) dL_law_1559 rfl rfl ?_
  refine ev_fV mv_X9_letterCount 2 9 [] [] dL_law_1560 kw_1133 rfl (by decide) rfl (by decide) (Nat.le_of_ble_eq_true rfl) (sp_X9_letterCount a) ?_ rfl
  refine ev_aload_n (ev_o 10 b) dL_law_1563 rfl rfl ?_
  refine ev_fV mv_X10_letterCount 1 10 [] [ev_i (S.1 (a + 30) 13)] dL_law_1564 kw_2289 rfl (by decide) rfl (by decide) (Nat.le_of_ble_eq_true rfl) (sp_X10_letterCount b) ?_ rfl
  refine ev_sub hQ (fun S1 hS1 hQ => ?_)
  refine ev_E.goal (pc' := 1567) (L' := [some (ev_x 0 k0), some (ev_o 9 a), some (ev_o 10 b), some (ev_o 21 o1), some (ev_o 22 o2), some (ev_i u5), none, none, none, none]) (K' := [ev_i (S.1 (b + 1) 4), ev_i (S.1 (a + 30) 13)]) (S' := S1) ?_ rfl rfl rfl hS1
  refine ev_icmp_eq 3142 dL_law_1567 (by decide) (fun c1 => ?_) (fun c1 => ?_)
  · replace hQ := hQ.1 c1
    exact hQ
  · replace hQ := hQ.2 c1
    refine ev_iconst (0) dL_law_1570 rfl ?_
    exact ev_ireturn .boolean dL_law_1571 rfl rfl hQ
set_option maxHeartbeats 4000000 in
set_option maxRecDepth 100000 in
theorem sg_L_law_1572 {g : ev_G} {S : ev_S} {Q : ev_O → ev_S → Prop} {B : Nat} (k0 a b o1 o2 : Nat) (u5 : Int32) (hQ : (vp_in (u5 + 1) (ev_sl g)) ∧ (
    ev_Cv g m_L_writer 4 1 [ev_o 9 a, ev_i (ev_sx g (u5 + 1).toNatClampNeg), ev_o 21 o1] S (fun o S1 => ∃ v1_ : Int32, o = .inl (some (ev_i v1_)) ∧ (
      ev_Cv g m_X10_writer 3 0 [ev_o 10 b, ev_i (ev_sx g (u5 + 1).toNatClampNeg)] S1 (fun o S2 => ∃ v2_ : Int32, o = .inl (some (ev_i v2_)) ∧ (
        ((S2.1 b 7) = v1_ → (
          (v1_ = 0 → (
            ((lg_cmp S2.2.1 v2_.toInt64) = 0 → (
              ev_E g m_L_law 52 (B + 1) 3142 [some (ev_x 0 k0), some (ev_o 9 a), some (ev_o 10 b), some (ev_o 21 o1), some (ev_o 22 o2), some (ev_i u5), none, none, none, none] [] S2 Q)) ∧
            (¬ ((lg_cmp S2.2.1 v2_.toInt64) = 0) → (
              Q (.inl (some (ev_i 0))) S2)))) ∧
          (¬ (v1_ = 0) → (
            ev_E g m_L_law 52 (B + 1) 3142 [some (ev_x 0 k0), some (ev_o 9 a), some (ev_o 10 b), some (ev_o 21 o1), some (ev_o 22 o2), some (ev_i u5), none, none, none, none] [] S2 Q)))) ∧
        (¬ ((S2.1 b 7) = v1_) → (
          Q (.inl (some (ev_i 0))) S2)))))))) : ev_E g m_L_law 52 (B + 2) 1572 [some (ev_x 0 k0), some (ev_o 9 a), some (ev_o 10 b), some (ev_o 21 o1), some (ev_o 22 o2), some (ev_i u5), none, none, none, none] [] S Q := by
  refine ev_aload_n (ev_o 9 a) dL_law_1572 rfl rfl ?_
  refine ev_aload_n (ev_x 0 k0) dL_law_1573 rfl rfl ?_
  refine ev_iload (u5) dL_law_1574 rfl ?_
  refine ev_iconst (1) dL_law_1576 rfl ?_
  refine ev_iadd dL_law_1577 ?_
  obtain ⟨h1, hQ⟩ := hQ
  refine ev_sld dL_law_1578 h1 ?_
  refine ev_aload_n (ev_o 21 o1) dL_law_1579 rfl rfl ?_
  refine ev_cH mh_L_writer 4 1 [ev_o 9 a, ev_i (ev_sx g (u5 + 1).toNatClampNeg), ev_o 21 o1] [] dL_law_1580 kw_1504 rfl (by decide) (by omega) (Nat.le_of_ble_eq_true rfl) hQ ?_ rfl
  rintro o S1 ⟨v1_, rfl, hQ⟩
  show ev_E g m_L_law 52 (B + 1) 1583 [some (ev_x 0 k0), some (ev_o 9 a), some (ev_o 10 b), some (ev_o 21 o1), some (ev_o 22 o2), some (ev_i u5), none, none, none, none] [ev_i v1_] S1 Q
  refine ev_istore dL_law_1583 (Nat.le_of_ble_eq_true rfl) (ev_hw rfl) ?_
  show ev_E g m_L_law 52 (B + 1) 1585 [some (ev_x 0 k0), some (ev_o 9 a), some (ev_o 10 b), some (ev_o 21 o1), some (ev_o 22 o2), some (ev_i u5), some (ev_i v1_), none, none, none] [] S1 Q
  refine ev_aload_n (ev_o 10 b) dL_law_1585 rfl rfl ?_
  refine ev_aload_n (ev_x 0 k0) dL_law_1586 rfl rfl ?_
  refine ev_iload (u5) dL_law_1587 rfl ?_
  refine ev_iconst (1) dL_law_1589 rfl ?_
  refine ev_iadd dL_law_1590 ?_
  refine ev_sld dL_law_1591 h1 ?_
  refine ev_cV mv_X10_writer 3 0 10 [ev_i (ev_sx g (u5 + 1).toNatClampNeg)] [] dL_law_1592 kw_2293 rfl (by decide) rfl (by decide) (by omega) (Nat.le_of_ble_eq_true rfl) hQ ?_ rfl
  rintro o S2 ⟨v2_, rfl, hQ⟩
  show ev_E g m_L_law 52 (B + 1) 1595 [some (ev_x 0 k0), some (ev_o 9 a), some (ev_o 10 b), some (ev_o 21 o1), some (ev_o 22 o2), some (ev_i u5), some (ev_i v1_), none, none, none] [ev_i v2_] S2 Q
  refine ev_istore dL_law_1595 (Nat.le_of_ble_eq_true rfl) (ev_hw rfl) ?_
  show ev_E g m_L_law 52 (B + 1) 1597 [some (ev_x 0 k0), some (ev_o 9 a), some (ev_o 10 b), some (ev_o 21 o1), some (ev_o 22 o2), some (ev_i u5), some (ev_i v1_), some (ev_i v2_), none, none] [] S2 Q
  refine ev_aload_n (ev_o 10 b) dL_law_1597 rfl rfl ?_
  refine ev_fV mv_X10_thrown 1 10 [] [] dL_law_1598 kw_1939 rfl (by decide) rfl (by decide) (Nat.le_of_ble_eq_true rfl) (sp_X10_thrown b) ?_ rfl
  refine ev_iload (v1_) dL_law_1601 rfl ?_
  refine ev_icmp_eq 1608 dL_law_1603 (by decide) (fun c1 => ?_) (fun c1 => ?_)
  · replace hQ := hQ.1 c1
    refine ev_iload (v1_) dL_law_1608 rfl ?_
    refine ev_if_ne 1625 dL_law_1610 (by decide) (fun c2 => ?_) (fun c2 => ?_)
    · replace hQ := hQ.2 c2
      refine ev_goto 3142 dL_law_1625 (by decide) ?_
      refine ev_fgm [true, true, true, true, true, true, false, false, false, false] ?_
      exact hQ
    · replace hQ := hQ.1 c2
      refine ev_aload_n (ev_o 21 o1) dL_law_1613 rfl rfl ?_
      refine ev_iconst (0) dL_law_1614 rfl ?_
      refine ev_laload dL_law_1615 ?_
      refine ev_iload (v2_) dL_law_1616 rfl ?_
      refine ev_i2l dL_law_1618 ?_
      refine ev_lcmp dL_law_1619 ?_
      refine ev_if_eq 1625 dL_law_1620 (by decide) (fun c3 => ?_) (fun c3 => ?_)
      · replace hQ := hQ.1 c3
        refine ev_goto 3142 dL_law_1625 (by decide) ?_
        refine ev_fgm [true, true, true, true, true, true, false, false, false, false] ?_
        exact hQ
      · replace hQ := hQ.2 c3
        refine ev_iconst (0) dL_law_1623 rfl ?_
        exact ev_ireturn .boolean dL_law_1624 rfl rfl hQ
  · replace hQ := hQ.2 c1
    refine ev_iconst (0) dL_law_1606 rfl ?_
    exact ev_ireturn .boolean dL_law_1607 rfl rfl hQ
set_option maxHeartbeats 4000000 in
set_option maxRecDepth 100000 in
theorem sg_L_law_1628 {g : ev_G} {S : ev_S} {Q : ev_O → ev_S → Prop} {B : Nat} (k0 a b o1 o2 : Nat) (u5 : Int32) (hQ : (vp_in (u5 + 1) (ev_sl g)) ∧ (
    ev_Cv g m_L_letterNumber 4 1 [ev_o 9 a, ev_i (ev_sx g (u5 + 1).toNatClampNeg), ev_o 21 o1] S (fun o S1 => ∃ v1_ : Int32, o = .inl (some (ev_i v1_)) ∧ (
      ev_Cv g m_X10_letterNumber 3 0 [ev_o 10 b, ev_i (ev_sx g (u5 + 1).toNatClampNeg)] S1 (fun o S2 => ∃ v2_ : Int32, o = .inl (some (ev_i v2_)) ∧ (
        ((S2.1 b 7) = v1_ → (
          (v1_ = 0 → (
            ((lg_cmp S2.2.1 v2_.toInt64) = 0 → (
              ev_E g m_L_law 52 (B + 1) 3142 [some (ev_x 0 k0), some (ev_o 9 a), some (ev_o 10 b), some (ev_o 21 o1), some (ev_o 22 o2), some (ev_i u5), none, none, none, none] [] S2 Q)) ∧
            (¬ ((lg_cmp S2.2.1 v2_.toInt64) = 0) → (
              Q (.inl (some (ev_i 0))) S2)))) ∧
          (¬ (v1_ = 0) → (
            ev_E g m_L_law 52 (B + 1) 3142 [some (ev_x 0 k0), some (ev_o 9 a), some (ev_o 10 b), some (ev_o 21 o1), some (ev_o 22 o2), some (ev_i u5), none, none, none, none] [] S2 Q)))) ∧
        (¬ ((S2.1 b 7) = v1_) → (
          Q (.inl (some (ev_i 0))) S2)))))))) : ev_E g m_L_law 52 (B + 2) 1628 [some (ev_x 0 k0), some (ev_o 9 a), some (ev_o 10 b), some (ev_o 21 o1), some (ev_o 22 o2), some (ev_i u5), none, none, none, none] [] S Q := by
  refine ev_aload_n (ev_o 9 a) dL_law_1628 rfl rfl ?_
  refine ev_aload_n (ev_x 0 k0) dL_law_1629 rfl rfl ?_
  refine ev_iload (u5) dL_law_1630 rfl ?_
  refine ev_iconst (1) dL_law_1632 rfl ?_
  refine ev_iadd dL_law_1633 ?_
  obtain ⟨h1, hQ⟩ := hQ
  refine ev_sld dL_law_1634 h1 ?_
  refine ev_aload_n (ev_o 21 o1) dL_law_1635 rfl rfl ?_
  refine ev_cH mh_L_letterNumber 4 1 [ev_o 9 a, ev_i (ev_sx g (u5 + 1).toNatClampNeg), ev_o 21 o1] [] dL_law_1636 kw_1513 rfl (by decide) (by omega) (Nat.le_of_ble_eq_true rfl) hQ ?_ rfl
  rintro o S1 ⟨v1_, rfl, hQ⟩
  show ev_E g m_L_law 52 (B + 1) 1639 [some (ev_x 0 k0), some (ev_o 9 a), some (ev_o 10 b), some (ev_o 21 o1), some (ev_o 22 o2), some (ev_i u5), none, none, none, none] [ev_i v1_] S1 Q
  refine ev_istore dL_law_1639 (Nat.le_of_ble_eq_true rfl) (ev_hw rfl) ?_
  show ev_E g m_L_law 52 (B + 1) 1641 [some (ev_x 0 k0), some (ev_o 9 a), some (ev_o 10 b), some (ev_o 21 o1), some (ev_o 22 o2), some (ev_i u5), some (ev_i v1_), none, none, none] [] S1 Q
  refine ev_aload_n (ev_o 10 b) dL_law_1641 rfl rfl ?_
  refine ev_aload_n (ev_x 0 k0) dL_law_1642 rfl rfl ?_
  refine ev_iload (u5) dL_law_1643 rfl ?_
  refine ev_iconst (1) dL_law_1645 rfl ?_
  refine ev_iadd dL_law_1646 ?_
  refine ev_sld dL_law_1647 h1 ?_
  refine ev_cV mv_X10_letterNumber 3 0 10 [ev_i (ev_sx g (u5 + 1).toNatClampNeg)] [] dL_law_1648 kw_2297 rfl (by decide) rfl (by decide) (by omega) (Nat.le_of_ble_eq_true rfl) hQ ?_ rfl
  rintro o S2 ⟨v2_, rfl, hQ⟩
  show ev_E g m_L_law 52 (B + 1) 1651 [some (ev_x 0 k0), some (ev_o 9 a), some (ev_o 10 b), some (ev_o 21 o1), some (ev_o 22 o2), some (ev_i u5), some (ev_i v1_), none, none, none] [ev_i v2_] S2 Q
  refine ev_istore dL_law_1651 (Nat.le_of_ble_eq_true rfl) (ev_hw rfl) ?_
  show ev_E g m_L_law 52 (B + 1) 1653 [some (ev_x 0 k0), some (ev_o 9 a), some (ev_o 10 b), some (ev_o 21 o1), some (ev_o 22 o2), some (ev_i u5), some (ev_i v1_), some (ev_i v2_), none, none] [] S2 Q
  refine ev_aload_n (ev_o 10 b) dL_law_1653 rfl rfl ?_
  refine ev_fV mv_X10_thrown 1 10 [] [] dL_law_1654 kw_1939 rfl (by decide) rfl (by decide) (Nat.le_of_ble_eq_true rfl) (sp_X10_thrown b) ?_ rfl
  refine ev_iload (v1_) dL_law_1657 rfl ?_
  refine ev_icmp_eq 1664 dL_law_1659 (by decide) (fun c1 => ?_) (fun c1 => ?_)
  · replace hQ := hQ.1 c1
    refine ev_iload (v1_) dL_law_1664 rfl ?_
    refine ev_if_ne 1681 dL_law_1666 (by decide) (fun c2 => ?_) (fun c2 => ?_)
    · replace hQ := hQ.2 c2
      refine ev_goto 3142 dL_law_1681 (by decide) ?_
      refine ev_fgm [true, true, true, true, true, true, false, false, false, false] ?_
      exact hQ
    · replace hQ := hQ.1 c2
      refine ev_aload_n (ev_o 21 o1) dL_law_1669 rfl rfl ?_
      refine ev_iconst (0) dL_law_1670 rfl ?_
      refine ev_laload dL_law_1671 ?_
      refine ev_iload (v2_) dL_law_1672 rfl ?_
      refine ev_i2l dL_law_1674 ?_
      refine ev_lcmp dL_law_1675 ?_
      refine ev_if_eq 1681 dL_law_1676 (by decide) (fun c3 => ?_) (fun c3 => ?_)
      · replace hQ := hQ.1 c3
        refine ev_goto 3142 dL_law_1681 (by decide) ?_
        refine ev_fgm [true, true, true, true, true, true, false, false, false, false] ?_
        exact hQ
      · replace hQ := hQ.2 c3
        refine ev_iconst (0) dL_law_1679 rfl ?_
        exact ev_ireturn .boolean dL_law_1680 rfl rfl hQ
  · replace hQ := hQ.2 c1
    refine ev_iconst (0) dL_law_1662 rfl ?_
    exact ev_ireturn .boolean dL_law_1663 rfl rfl hQ
set_option maxHeartbeats 4000000 in
set_option maxRecDepth 100000 in
theorem sg_L_law_1684 {g : ev_G} {S : ev_S} {Q : ev_O → ev_S → Prop} {B : Nat} (k0 a b o1 o2 : Nat) (u5 : Int32) (hQ : (vp_in (u5 + 1) (ev_sl g)) ∧ (
    ev_Cv g m_L_isPromise 4 1 [ev_o 9 a, ev_i (ev_sx g (u5 + 1).toNatClampNeg), ev_o 21 o1] S (fun o S1 => ∃ v1_ : Int32, o = .inl (some (ev_i v1_)) ∧ (
      ev_Cv g m_X10_isPromise 3 0 [ev_o 10 b, ev_i (ev_sx g (u5 + 1).toNatClampNeg)] S1 (fun o S2 => ∃ v2_ : Bool, o = .inl (some (ev_i (if v2_ = true then 1 else 0))) ∧ (
        (v2_ = true → (
          ((S2.1 b 7) = v1_ → (
            (v1_ = 0 → (
              ((lg_cmp S2.2.1 1) = 0 → (
                ev_E g m_L_law 52 (B + 1) 3142 [some (ev_x 0 k0), some (ev_o 9 a), some (ev_o 10 b), some (ev_o 21 o1), some (ev_o 22 o2), some (ev_i u5), none, none, none, none] [] S2 Q)) ∧
              (¬ ((lg_cmp S2.2.1 1) = 0) → (
                Q (.inl (some (ev_i 0))) S2)))) ∧
            (¬ (v1_ = 0) → (
              ev_E g m_L_law 52 (B + 1) 3142 [some (ev_x 0 k0), some (ev_o 9 a), some (ev_o 10 b), some (ev_o 21 o1), some (ev_o 22 o2), some (ev_i u5), none, none, none, none] [] S2 Q)))) ∧
          (¬ ((S2.1 b 7) = v1_) → (
            Q (.inl (some (ev_i 0))) S2)))) ∧
        (¬ (v2_ = true) → (
          ((S2.1 b 7) = v1_ → (
            (v1_ = 0 → (
              ((lg_cmp S2.2.1 0) = 0 → (
                ev_E g m_L_law 52 (B + 1) 3142 [some (ev_x 0 k0), some (ev_o 9 a), some (ev_o 10 b), some (ev_o 21 o1), some (ev_o 22 o2), some (ev_i u5), none, none, none, none] [] S2 Q)) ∧
              (¬ ((lg_cmp S2.2.1 0) = 0) → (
                Q (.inl (some (ev_i 0))) S2)))) ∧
            (¬ (v1_ = 0) → (
              ev_E g m_L_law 52 (B + 1) 3142 [some (ev_x 0 k0), some (ev_o 9 a), some (ev_o 10 b), some (ev_o 21 o1), some (ev_o 22 o2), some (ev_i u5), none, none, none, none] [] S2 Q)))) ∧
          (¬ ((S2.1 b 7) = v1_) → (
            Q (.inl (some (ev_i 0))) S2)))))))))) : ev_E g m_L_law 52 (B + 2) 1684 [some (ev_x 0 k0), some (ev_o 9 a), some (ev_o 10 b), some (ev_o 21 o1), some (ev_o 22 o2), some (ev_i u5), none, none, none, none] [] S Q := by
  refine ev_aload_n (ev_o 9 a) dL_law_1684 rfl rfl ?_
  refine ev_aload_n (ev_x 0 k0) dL_law_1685 rfl rfl ?_
  refine ev_iload (u5) dL_law_1686 rfl ?_
  refine ev_iconst (1) dL_law_1688 rfl ?_
  refine ev_iadd dL_law_1689 ?_
  obtain ⟨h1, hQ⟩ := hQ
  refine ev_sld dL_law_1690 h1 ?_
  refine ev_aload_n (ev_o 21 o1) dL_law_1691 rfl rfl ?_
  refine ev_cH mh_L_isPromise 4 1 [ev_o 9 a, ev_i (ev_sx g (u5 + 1).toNatClampNeg), ev_o 21 o1] [] dL_law_1692 kw_1521 rfl (by decide) (by omega) (Nat.le_of_ble_eq_true rfl) hQ ?_ rfl
  rintro o S1 ⟨v1_, rfl, hQ⟩
  show ev_E g m_L_law 52 (B + 1) 1695 [some (ev_x 0 k0), some (ev_o 9 a), some (ev_o 10 b), some (ev_o 21 o1), some (ev_o 22 o2), some (ev_i u5), none, none, none, none] [ev_i v1_] S1 Q
  refine ev_istore dL_law_1695 (Nat.le_of_ble_eq_true rfl) (ev_hw rfl) ?_
  show ev_E g m_L_law 52 (B + 1) 1697 [some (ev_x 0 k0), some (ev_o 9 a), some (ev_o 10 b), some (ev_o 21 o1), some (ev_o 22 o2), some (ev_i u5), some (ev_i v1_), none, none, none] [] S1 Q
  refine ev_aload_n (ev_o 10 b) dL_law_1697 rfl rfl ?_
  refine ev_aload_n (ev_x 0 k0) dL_law_1698 rfl rfl ?_
  refine ev_iload (u5) dL_law_1699 rfl ?_
  refine ev_iconst (1) dL_law_1701 rfl ?_
  refine ev_iadd dL_law_1702 ?_
  refine ev_sld dL_law_1703 h1 ?_
  refine ev_cV mv_X10_isPromise 3 0 10 [ev_i (ev_sx g (u5 + 1).toNatClampNeg)] [] dL_law_1704 kw_2301 rfl (by decide) rfl (by decide) (by omega) (Nat.le_of_ble_eq_true rfl) hQ ?_ rfl
  rintro o S2 ⟨v2_, rfl, hQ⟩
  show ev_E g m_L_law 52 (B + 1) 1707 [some (ev_x 0 k0), some (ev_o 9 a), some (ev_o 10 b), some (ev_o 21 o1), some (ev_o 22 o2), some (ev_i u5), some (ev_i v1_), none, none, none] [ev_i (if v2_ = true then 1 else 0)] S2 Q
  by_cases c1 : v2_ = true
  · rw [if_pos c1]
    replace hQ := hQ.1 c1
    refine ev_istore dL_law_1707 (Nat.le_of_ble_eq_true rfl) (ev_hw rfl) ?_
    show ev_E g m_L_law 52 (B + 1) 1709 [some (ev_x 0 k0), some (ev_o 9 a), some (ev_o 10 b), some (ev_o 21 o1), some (ev_o 22 o2), some (ev_i u5), some (ev_i v1_), some (ev_i 1), none, none] [] S2 Q
    refine ev_aload_n (ev_o 10 b) dL_law_1709 rfl rfl ?_
    refine ev_fV mv_X10_thrown 1 10 [] [] dL_law_1710 kw_1939 rfl (by decide) rfl (by decide) (Nat.le_of_ble_eq_true rfl) (sp_X10_thrown b) ?_ rfl
    refine ev_iload (v1_) dL_law_1713 rfl ?_
    refine ev_icmp_eq 1720 dL_law_1715 (by decide) (fun c2 => ?_) (fun c2 => ?_)
    · replace hQ := hQ.1 c2
      refine ev_iload (v1_) dL_law_1720 rfl ?_
      refine ev_if_ne 1744 dL_law_1722 (by decide) (fun c3 => ?_) (fun c3 => ?_)
      · replace hQ := hQ.2 c3
        refine ev_goto 3142 dL_law_1744 (by decide) ?_
        refine ev_fgm [true, true, true, true, true, true, false, false, false, false] ?_
        exact hQ
      · replace hQ := hQ.1 c3
        refine ev_aload_n (ev_o 21 o1) dL_law_1725 rfl rfl ?_
        refine ev_iconst (0) dL_law_1726 rfl ?_
        refine ev_laload dL_law_1727 ?_
        refine ev_iload (1) dL_law_1728 rfl ?_
        refine ev_if_eq 1737 dL_law_1730 (by decide) (fun h9 => absurd h9 (by decide : ¬ ((1 : Int32) = 0))) (fun _ => ?_)
        refine ev_lconst (1) dL_law_1733 rfl ?_
        refine ev_goto 1738 dL_law_1734 (by decide) ?_
        refine ev_lcmp dL_law_1738 ?_
        refine ev_if_eq 1744 dL_law_1739 (by decide) (fun c4 => ?_) (fun c4 => ?_)
        · replace hQ := hQ.1 c4
          refine ev_goto 3142 dL_law_1744 (by decide) ?_
          refine ev_fgm [true, true, true, true, true, true, false, false, false, false] ?_
          exact hQ
        · replace hQ := hQ.2 c4
          refine ev_iconst (0) dL_law_1742 rfl ?_
          exact ev_ireturn .boolean dL_law_1743 rfl rfl hQ
    · replace hQ := hQ.2 c2
      refine ev_iconst (0) dL_law_1718 rfl ?_
      exact ev_ireturn .boolean dL_law_1719 rfl rfl hQ
  · rw [if_neg c1]
    replace hQ := hQ.2 c1
    refine ev_istore dL_law_1707 (Nat.le_of_ble_eq_true rfl) (ev_hw rfl) ?_
    show ev_E g m_L_law 52 (B + 1) 1709 [some (ev_x 0 k0), some (ev_o 9 a), some (ev_o 10 b), some (ev_o 21 o1), some (ev_o 22 o2), some (ev_i u5), some (ev_i v1_), some (ev_i 0), none, none] [] S2 Q
    refine ev_aload_n (ev_o 10 b) dL_law_1709 rfl rfl ?_
    refine ev_fV mv_X10_thrown 1 10 [] [] dL_law_1710 kw_1939 rfl (by decide) rfl (by decide) (Nat.le_of_ble_eq_true rfl) (sp_X10_thrown b) ?_ rfl
    refine ev_iload (v1_) dL_law_1713 rfl ?_
    refine ev_icmp_eq 1720 dL_law_1715 (by decide) (fun c5 => ?_) (fun c5 => ?_)
    · replace hQ := hQ.1 c5
      refine ev_iload (v1_) dL_law_1720 rfl ?_
      refine ev_if_ne 1744 dL_law_1722 (by decide) (fun c6 => ?_) (fun c6 => ?_)
      · replace hQ := hQ.2 c6
        refine ev_goto 3142 dL_law_1744 (by decide) ?_
        refine ev_fgm [true, true, true, true, true, true, false, false, false, false] ?_
        exact hQ
      · replace hQ := hQ.1 c6
        refine ev_aload_n (ev_o 21 o1) dL_law_1725 rfl rfl ?_
        refine ev_iconst (0) dL_law_1726 rfl ?_
        refine ev_laload dL_law_1727 ?_
        refine ev_iload (0) dL_law_1728 rfl ?_
        refine ev_if_eq 1737 dL_law_1730 (by decide) (fun _ => ?_) (fun h9 => absurd (by decide : ((0 : Int32) = 0)) h9)
        refine ev_lconst (0) dL_law_1737 rfl ?_
        refine ev_lcmp dL_law_1738 ?_
        refine ev_if_eq 1744 dL_law_1739 (by decide) (fun c7 => ?_) (fun c7 => ?_)
        · replace hQ := hQ.1 c7
          refine ev_goto 3142 dL_law_1744 (by decide) ?_
          refine ev_fgm [true, true, true, true, true, true, false, false, false, false] ?_
          exact hQ
        · replace hQ := hQ.2 c7
          refine ev_iconst (0) dL_law_1742 rfl ?_
          exact ev_ireturn .boolean dL_law_1743 rfl rfl hQ
    · replace hQ := hQ.2 c5
      refine ev_iconst (0) dL_law_1718 rfl ?_
      exact ev_ireturn .boolean dL_law_1719 rfl rfl hQ
set_option maxHeartbeats 4000000 in
set_option maxRecDepth 100000 in
theorem sg_L_law_1747 {g : ev_G} {S : ev_S} {Q : ev_O → ev_S → Prop} {B : Nat} (k0 a b o1 o2 : Nat) (u5 : Int32) (hQ : (vp_in (u5 + 1) (ev_sl g)) ∧ (
    ev_Cv g m_L_letterState 4 1 [ev_o 9 a, ev_i (ev_sx g (u5 + 1).toNatClampNeg), ev_o 21 o1] S (fun o S1 => ∃ v1_ : Int32, o = .inl (some (ev_i v1_)) ∧ (
      ev_Cv g m_X10_letterState 3 0 [ev_o 10 b, ev_i (ev_sx g (u5 + 1).toNatClampNeg)] S1 (fun o S2 => ∃ v2_ : Int32, o = .inl (some (ev_i v2_)) ∧ (
        ((S2.1 b 7) = v1_ → (
          (v1_ = 0 → (
            ((lg_cmp S2.2.1 v2_.toInt64) = 0 → (
              ev_E g m_L_law 52 (B + 1) 3142 [some (ev_x 0 k0), some (ev_o 9 a), some (ev_o 10 b), some (ev_o 21 o1), some (ev_o 22 o2), some (ev_i u5), none, none, none, none] [] S2 Q)) ∧
            (¬ ((lg_cmp S2.2.1 v2_.toInt64) = 0) → (
              Q (.inl (some (ev_i 0))) S2)))) ∧
          (¬ (v1_ = 0) → (
            ev_E g m_L_law 52 (B + 1) 3142 [some (ev_x 0 k0), some (ev_o 9 a), some (ev_o 10 b), some (ev_o 21 o1), some (ev_o 22 o2), some (ev_i u5), none, none, none, none] [] S2 Q)))) ∧
        (¬ ((S2.1 b 7) = v1_) → (
          Q (.inl (some (ev_i 0))) S2)))))))) : ev_E g m_L_law 52 (B + 2) 1747 [some (ev_x 0 k0), some (ev_o 9 a), some (ev_o 10 b), some (ev_o 21 o1), some (ev_o 22 o2), some (ev_i u5), none, none, none, none] [] S Q := by
  refine ev_aload_n (ev_o 9 a) dL_law_1747 rfl rfl ?_
  refine ev_aload_n (ev_x 0 k0) dL_law_1748 rfl rfl ?_
  refine ev_iload (u5) dL_law_1749 rfl ?_
  refine ev_iconst (1) dL_law_1751 rfl ?_
  refine ev_iadd dL_law_1752 ?_
  obtain ⟨h1, hQ⟩ := hQ
  refine ev_sld dL_law_1753 h1 ?_
  refine ev_aload_n (ev_o 21 o1) dL_law_1754 rfl rfl ?_
  refine ev_cH mh_L_letterState 4 1 [ev_o 9 a, ev_i (ev_sx g (u5 + 1).toNatClampNeg), ev_o 21 o1] [] dL_law_1755 kw_1529 rfl (by decide) (by omega) (Nat.le_of_ble_eq_true rfl) hQ ?_ rfl
  rintro o S1 ⟨v1_, rfl, hQ⟩
  show ev_E g m_L_law 52 (B + 1) 1758 [some (ev_x 0 k0), some (ev_o 9 a), some (ev_o 10 b), some (ev_o 21 o1), some (ev_o 22 o2), some (ev_i u5), none, none, none, none] [ev_i v1_] S1 Q
  refine ev_istore dL_law_1758 (Nat.le_of_ble_eq_true rfl) (ev_hw rfl) ?_
  show ev_E g m_L_law 52 (B + 1) 1760 [some (ev_x 0 k0), some (ev_o 9 a), some (ev_o 10 b), some (ev_o 21 o1), some (ev_o 22 o2), some (ev_i u5), some (ev_i v1_), none, none, none] [] S1 Q
  refine ev_aload_n (ev_o 10 b) dL_law_1760 rfl rfl ?_
  refine ev_aload_n (ev_x 0 k0) dL_law_1761 rfl rfl ?_
  refine ev_iload (u5) dL_law_1762 rfl ?_
  refine ev_iconst (1) dL_law_1764 rfl ?_
  refine ev_iadd dL_law_1765 ?_
  refine ev_sld dL_law_1766 h1 ?_
  refine ev_cV mv_X10_letterState 3 0 10 [ev_i (ev_sx g (u5 + 1).toNatClampNeg)] [] dL_law_1767 kw_2305 rfl (by decide) rfl (by decide) (by omega) (Nat.le_of_ble_eq_true rfl) hQ ?_ rfl
  rintro o S2 ⟨v2_, rfl, hQ⟩
  show ev_E g m_L_law 52 (B + 1) 1770 [some (ev_x 0 k0), some (ev_o 9 a), some (ev_o 10 b), some (ev_o 21 o1), some (ev_o 22 o2), some (ev_i u5), some (ev_i v1_), none, none, none] [ev_i v2_] S2 Q
  refine ev_istore dL_law_1770 (Nat.le_of_ble_eq_true rfl) (ev_hw rfl) ?_
  show ev_E g m_L_law 52 (B + 1) 1772 [some (ev_x 0 k0), some (ev_o 9 a), some (ev_o 10 b), some (ev_o 21 o1), some (ev_o 22 o2), some (ev_i u5), some (ev_i v1_), some (ev_i v2_), none, none] [] S2 Q
  refine ev_aload_n (ev_o 10 b) dL_law_1772 rfl rfl ?_
  refine ev_fV mv_X10_thrown 1 10 [] [] dL_law_1773 kw_1939 rfl (by decide) rfl (by decide) (Nat.le_of_ble_eq_true rfl) (sp_X10_thrown b) ?_ rfl
  refine ev_iload (v1_) dL_law_1776 rfl ?_
  refine ev_icmp_eq 1783 dL_law_1778 (by decide) (fun c1 => ?_) (fun c1 => ?_)
  · replace hQ := hQ.1 c1
    refine ev_iload (v1_) dL_law_1783 rfl ?_
    refine ev_if_ne 1800 dL_law_1785 (by decide) (fun c2 => ?_) (fun c2 => ?_)
    · replace hQ := hQ.2 c2
      refine ev_goto 3142 dL_law_1800 (by decide) ?_
      refine ev_fgm [true, true, true, true, true, true, false, false, false, false] ?_
      exact hQ
    · replace hQ := hQ.1 c2
      refine ev_aload_n (ev_o 21 o1) dL_law_1788 rfl rfl ?_
      refine ev_iconst (0) dL_law_1789 rfl ?_
      refine ev_laload dL_law_1790 ?_
      refine ev_iload (v2_) dL_law_1791 rfl ?_
      refine ev_i2l dL_law_1793 ?_
      refine ev_lcmp dL_law_1794 ?_
      refine ev_if_eq 1800 dL_law_1795 (by decide) (fun c3 => ?_) (fun c3 => ?_)
      · replace hQ := hQ.1 c3
        refine ev_goto 3142 dL_law_1800 (by decide) ?_
        refine ev_fgm [true, true, true, true, true, true, false, false, false, false] ?_
        exact hQ
      · replace hQ := hQ.2 c3
        refine ev_iconst (0) dL_law_1798 rfl ?_
        exact ev_ireturn .boolean dL_law_1799 rfl rfl hQ
  · replace hQ := hQ.2 c1
    refine ev_iconst (0) dL_law_1781 rfl ?_
    exact ev_ireturn .boolean dL_law_1782 rfl rfl hQ
set_option maxHeartbeats 4000000 in
set_option maxRecDepth 100000 in
theorem sg_L_law_1803 {g : ev_G} {S : ev_S} {Q : ev_O → ev_S → Prop} {B : Nat} (k0 a b o1 o2 : Nat) (u5 : Int32) (hQ : (vp_in (u5 + 1) (ev_sl g)) ∧ (
    ev_Cv g m_L_awaitedLetter 5 1 [ev_o 9 a, ev_i (ev_sx g (u5 + 1).toNatClampNeg), ev_o 21 o1] S (fun o S1 => ∃ v1_ : Int32, o = .inl (some (ev_i v1_)) ∧ (
      ev_Cv g m_X10_awaitedLetter 4 0 [ev_o 10 b, ev_i (ev_sx g (u5 + 1).toNatClampNeg)] S1 (fun o S2 => ∃ v2_ : Int32, o = .inl (some (ev_i v2_)) ∧ (
        ((S2.1 b 7) = v1_ → (
          (v1_ = 0 → (
            ((lg_cmp S2.2.1 v2_.toInt64) = 0 → (
              ev_E g m_L_law 52 (B + 1) 3142 [some (ev_x 0 k0), some (ev_o 9 a), some (ev_o 10 b), some (ev_o 21 o1), some (ev_o 22 o2), some (ev_i u5), none, none, none, none] [] S2 Q)) ∧
            (¬ ((lg_cmp S2.2.1 v2_.toInt64) = 0) → (
              Q (.inl (some (ev_i 0))) S2)))) ∧
          (¬ (v1_ = 0) → (
            ev_E g m_L_law 52 (B + 1) 3142 [some (ev_x 0 k0), some (ev_o 9 a), some (ev_o 10 b), some (ev_o 21 o1), some (ev_o 22 o2), some (ev_i u5), none, none, none, none] [] S2 Q)))) ∧
        (¬ ((S2.1 b 7) = v1_) → (
          Q (.inl (some (ev_i 0))) S2)))))))) : ev_E g m_L_law 52 (B + 2) 1803 [some (ev_x 0 k0), some (ev_o 9 a), some (ev_o 10 b), some (ev_o 21 o1), some (ev_o 22 o2), some (ev_i u5), none, none, none, none] [] S Q := by
  refine ev_aload_n (ev_o 9 a) dL_law_1803 rfl rfl ?_
  refine ev_aload_n (ev_x 0 k0) dL_law_1804 rfl rfl ?_
  refine ev_iload (u5) dL_law_1805 rfl ?_
  refine ev_iconst (1) dL_law_1807 rfl ?_
  refine ev_iadd dL_law_1808 ?_
  obtain ⟨h1, hQ⟩ := hQ
  refine ev_sld dL_law_1809 h1 ?_
  refine ev_aload_n (ev_o 21 o1) dL_law_1810 rfl rfl ?_
  refine ev_cH mh_L_awaitedLetter 5 1 [ev_o 9 a, ev_i (ev_sx g (u5 + 1).toNatClampNeg), ev_o 21 o1] [] dL_law_1811 kw_1537 rfl (by decide) (by omega) (Nat.le_of_ble_eq_true rfl) hQ ?_ rfl
  rintro o S1 ⟨v1_, rfl, hQ⟩
  show ev_E g m_L_law 52 (B + 1) 1814 [some (ev_x 0 k0), some (ev_o 9 a), some (ev_o 10 b), some (ev_o 21 o1), some (ev_o 22 o2), some (ev_i u5), none, none, none, none] [ev_i v1_] S1 Q
  refine ev_istore dL_law_1814 (Nat.le_of_ble_eq_true rfl) (ev_hw rfl) ?_
  show ev_E g m_L_law 52 (B + 1) 1816 [some (ev_x 0 k0), some (ev_o 9 a), some (ev_o 10 b), some (ev_o 21 o1), some (ev_o 22 o2), some (ev_i u5), some (ev_i v1_), none, none, none] [] S1 Q
  refine ev_aload_n (ev_o 10 b) dL_law_1816 rfl rfl ?_
  refine ev_aload_n (ev_x 0 k0) dL_law_1817 rfl rfl ?_
  refine ev_iload (u5) dL_law_1818 rfl ?_
  refine ev_iconst (1) dL_law_1820 rfl ?_
  refine ev_iadd dL_law_1821 ?_
  refine ev_sld dL_law_1822 h1 ?_
  refine ev_cV mv_X10_awaitedLetter 4 0 10 [ev_i (ev_sx g (u5 + 1).toNatClampNeg)] [] dL_law_1823 kw_2309 rfl (by decide) rfl (by decide) (by omega) (Nat.le_of_ble_eq_true rfl) hQ ?_ rfl
  rintro o S2 ⟨v2_, rfl, hQ⟩
  show ev_E g m_L_law 52 (B + 1) 1826 [some (ev_x 0 k0), some (ev_o 9 a), some (ev_o 10 b), some (ev_o 21 o1), some (ev_o 22 o2), some (ev_i u5), some (ev_i v1_), none, none, none] [ev_i v2_] S2 Q
  refine ev_istore dL_law_1826 (Nat.le_of_ble_eq_true rfl) (ev_hw rfl) ?_
  show ev_E g m_L_law 52 (B + 1) 1828 [some (ev_x 0 k0), some (ev_o 9 a), some (ev_o 10 b), some (ev_o 21 o1), some (ev_o 22 o2), some (ev_i u5), some (ev_i v1_), some (ev_i v2_), none, none] [] S2 Q
  refine ev_aload_n (ev_o 10 b) dL_law_1828 rfl rfl ?_
  refine ev_fV mv_X10_thrown 1 10 [] [] dL_law_1829 kw_1939 rfl (by decide) rfl (by decide) (Nat.le_of_ble_eq_true rfl) (sp_X10_thrown b) ?_ rfl
  refine ev_iload (v1_) dL_law_1832 rfl ?_
  refine ev_icmp_eq 1839 dL_law_1834 (by decide) (fun c1 => ?_) (fun c1 => ?_)
  · replace hQ := hQ.1 c1
    refine ev_iload (v1_) dL_law_1839 rfl ?_
    refine ev_if_ne 1856 dL_law_1841 (by decide) (fun c2 => ?_) (fun c2 => ?_)
    · replace hQ := hQ.2 c2
      refine ev_goto 3142 dL_law_1856 (by decide) ?_
      refine ev_fgm [true, true, true, true, true, true, false, false, false, false] ?_
      exact hQ
    · replace hQ := hQ.1 c2
      refine ev_aload_n (ev_o 21 o1) dL_law_1844 rfl rfl ?_
      refine ev_iconst (0) dL_law_1845 rfl ?_
      refine ev_laload dL_law_1846 ?_
      refine ev_iload (v2_) dL_law_1847 rfl ?_
      refine ev_i2l dL_law_1849 ?_
      refine ev_lcmp dL_law_1850 ?_
      refine ev_if_eq 1856 dL_law_1851 (by decide) (fun c3 => ?_) (fun c3 => ?_)
      · replace hQ := hQ.1 c3
        refine ev_goto 3142 dL_law_1856 (by decide) ?_
        refine ev_fgm [true, true, true, true, true, true, false, false, false, false] ?_
        exact hQ
      · replace hQ := hQ.2 c3
        refine ev_iconst (0) dL_law_1854 rfl ?_
        exact ev_ireturn .boolean dL_law_1855 rfl rfl hQ
  · replace hQ := hQ.2 c1
    refine ev_iconst (0) dL_law_1837 rfl ?_
    exact ev_ireturn .boolean dL_law_1838 rfl rfl hQ
set_option maxHeartbeats 4000000 in
set_option maxRecDepth 100000 in
theorem sg_L_law_1859 {g : ev_G} {S : ev_S} {Q : ev_O → ev_S → Prop} {B : Nat} (k0 a b o1 o2 : Nat) (u5 : Int32) (hQ : (vp_in (u5 + 1) (ev_sl g)) ∧ (
    ev_Cv g m_L_reasonToWait 6 1 [ev_o 9 a, ev_i (ev_sx g (u5 + 1).toNatClampNeg), ev_o 21 o1] S (fun o S1 => ∃ v1_ : Int32, o = .inl (some (ev_i v1_)) ∧ (
      ev_Cv g m_X10_reasonToWait 5 0 [ev_o 10 b, ev_i (ev_sx g (u5 + 1).toNatClampNeg)] S1 (fun o S2 => ∃ v2_ : Int32, o = .inl (some (ev_i v2_)) ∧ (
        ((S2.1 b 7) = v1_ → (
          (v1_ = 0 → (
            ((lg_cmp S2.2.1 v2_.toInt64) = 0 → (
              ev_E g m_L_law 52 (B + 1) 3142 [some (ev_x 0 k0), some (ev_o 9 a), some (ev_o 10 b), some (ev_o 21 o1), some (ev_o 22 o2), some (ev_i u5), none, none, none, none] [] S2 Q)) ∧
            (¬ ((lg_cmp S2.2.1 v2_.toInt64) = 0) → (
              Q (.inl (some (ev_i 0))) S2)))) ∧
          (¬ (v1_ = 0) → (
            ev_E g m_L_law 52 (B + 1) 3142 [some (ev_x 0 k0), some (ev_o 9 a), some (ev_o 10 b), some (ev_o 21 o1), some (ev_o 22 o2), some (ev_i u5), none, none, none, none] [] S2 Q)))) ∧
        (¬ ((S2.1 b 7) = v1_) → (
          Q (.inl (some (ev_i 0))) S2)))))))) : ev_E g m_L_law 52 (B + 2) 1859 [some (ev_x 0 k0), some (ev_o 9 a), some (ev_o 10 b), some (ev_o 21 o1), some (ev_o 22 o2), some (ev_i u5), none, none, none, none] [] S Q := by
  refine ev_aload_n (ev_o 9 a) dL_law_1859 rfl rfl ?_
  refine ev_aload_n (ev_x 0 k0) dL_law_1860 rfl rfl ?_
  refine ev_iload (u5) dL_law_1861 rfl ?_
  refine ev_iconst (1) dL_law_1863 rfl ?_
  refine ev_iadd dL_law_1864 ?_
  obtain ⟨h1, hQ⟩ := hQ
  refine ev_sld dL_law_1865 h1 ?_
  refine ev_aload_n (ev_o 21 o1) dL_law_1866 rfl rfl ?_
  refine ev_cH mh_L_reasonToWait 6 1 [ev_o 9 a, ev_i (ev_sx g (u5 + 1).toNatClampNeg), ev_o 21 o1] [] dL_law_1867 kw_1550 rfl (by decide) (by omega) (Nat.le_of_ble_eq_true rfl) hQ ?_ rfl
  rintro o S1 ⟨v1_, rfl, hQ⟩
  show ev_E g m_L_law 52 (B + 1) 1870 [some (ev_x 0 k0), some (ev_o 9 a), some (ev_o 10 b), some (ev_o 21 o1), some (ev_o 22 o2), some (ev_i u5), none, none, none, none] [ev_i v1_] S1 Q
  refine ev_istore dL_law_1870 (Nat.le_of_ble_eq_true rfl) (ev_hw rfl) ?_
  show ev_E g m_L_law 52 (B + 1) 1872 [some (ev_x 0 k0), some (ev_o 9 a), some (ev_o 10 b), some (ev_o 21 o1), some (ev_o 22 o2), some (ev_i u5), some (ev_i v1_), none, none, none] [] S1 Q
  refine ev_aload_n (ev_o 10 b) dL_law_1872 rfl rfl ?_
  refine ev_aload_n (ev_x 0 k0) dL_law_1873 rfl rfl ?_
  refine ev_iload (u5) dL_law_1874 rfl ?_
  refine ev_iconst (1) dL_law_1876 rfl ?_
  refine ev_iadd dL_law_1877 ?_
  refine ev_sld dL_law_1878 h1 ?_
  refine ev_cV mv_X10_reasonToWait 5 0 10 [ev_i (ev_sx g (u5 + 1).toNatClampNeg)] [] dL_law_1879 kw_2317 rfl (by decide) rfl (by decide) (by omega) (Nat.le_of_ble_eq_true rfl) hQ ?_ rfl
  rintro o S2 ⟨v2_, rfl, hQ⟩
  show ev_E g m_L_law 52 (B + 1) 1882 [some (ev_x 0 k0), some (ev_o 9 a), some (ev_o 10 b), some (ev_o 21 o1), some (ev_o 22 o2), some (ev_i u5), some (ev_i v1_), none, none, none] [ev_i v2_] S2 Q
  refine ev_istore dL_law_1882 (Nat.le_of_ble_eq_true rfl) (ev_hw rfl) ?_
  show ev_E g m_L_law 52 (B + 1) 1884 [some (ev_x 0 k0), some (ev_o 9 a), some (ev_o 10 b), some (ev_o 21 o1), some (ev_o 22 o2), some (ev_i u5), some (ev_i v1_), some (ev_i v2_), none, none] [] S2 Q
  refine ev_aload_n (ev_o 10 b) dL_law_1884 rfl rfl ?_
  refine ev_fV mv_X10_thrown 1 10 [] [] dL_law_1885 kw_1939 rfl (by decide) rfl (by decide) (Nat.le_of_ble_eq_true rfl) (sp_X10_thrown b) ?_ rfl
  refine ev_iload (v1_) dL_law_1888 rfl ?_
  refine ev_icmp_eq 1895 dL_law_1890 (by decide) (fun c1 => ?_) (fun c1 => ?_)
  · replace hQ := hQ.1 c1
    refine ev_iload (v1_) dL_law_1895 rfl ?_
    refine ev_if_ne 1912 dL_law_1897 (by decide) (fun c2 => ?_) (fun c2 => ?_)
    · replace hQ := hQ.2 c2
      refine ev_goto 3142 dL_law_1912 (by decide) ?_
      refine ev_fgm [true, true, true, true, true, true, false, false, false, false] ?_
      exact hQ
    · replace hQ := hQ.1 c2
      refine ev_aload_n (ev_o 21 o1) dL_law_1900 rfl rfl ?_
      refine ev_iconst (0) dL_law_1901 rfl ?_
      refine ev_laload dL_law_1902 ?_
      refine ev_iload (v2_) dL_law_1903 rfl ?_
      refine ev_i2l dL_law_1905 ?_
      refine ev_lcmp dL_law_1906 ?_
      refine ev_if_eq 1912 dL_law_1907 (by decide) (fun c3 => ?_) (fun c3 => ?_)
      · replace hQ := hQ.1 c3
        refine ev_goto 3142 dL_law_1912 (by decide) ?_
        refine ev_fgm [true, true, true, true, true, true, false, false, false, false] ?_
        exact hQ
      · replace hQ := hQ.2 c3
        refine ev_iconst (0) dL_law_1910 rfl ?_
        exact ev_ireturn .boolean dL_law_1911 rfl rfl hQ
  · replace hQ := hQ.2 c1
    refine ev_iconst (0) dL_law_1893 rfl ?_
    exact ev_ireturn .boolean dL_law_1894 rfl rfl hQ
set_option maxHeartbeats 4000000 in
set_option maxRecDepth 100000 in
theorem sg_L_law_1915 {g : ev_G} {S : ev_S} {Q : ev_O → ev_S → Prop} {B : Nat} (k0 a b o1 o2 : Nat) (u5 : Int32) (hQ : ∀ S1 : ev_S, S1 = (ev_up S b 7 0) → (
    ((S.1 (a + 11) 5) = (S.1 (b + 1) 5) → (
      ev_E g m_L_law 52 (B + 2) 3142 [some (ev_x 0 k0), some (ev_o 9 a), some (ev_o 10 b), some (ev_o 21 o1), some (ev_o 22 o2), some (ev_i u5), none, none, none, none] [] S1 Q)) ∧
    (¬ ((S.1 (a + 11) 5) = (S.1 (b + 1) 5)) → (
      Q (.inl (some (ev_i 0))) S1)))) : ev_E g m_L_law 52 (B + 2) 1915 [some (ev_x 0 k0), some (ev_o 9 a), some (ev_o 10 b), some (ev_o 21 o1), some (ev_o 22 o2), some (ev_i u5), none, none, none, none] [] S Q := by
  refine ev_aload_n (ev_o 9 a) dL_law_1915 rfl rfl ?_
  refine ev_fV mv_X9_duplicateCount 2 9 [] [] dL_law_1916 kw_1145 rfl (by decide) rfl (by decide) (Nat.le_of_ble_eq_true rfl) (sp_X9_duplicateCount a) ?_ rfl
  refine ev_aload_n (ev_o 10 b) dL_law_1919 rfl rfl ?_
  refine ev_fV mv_X10_duplicateCount 1 10 [] [ev_i (S.1 (a + 11) 5)] dL_law_1920 kw_2321 rfl (by decide) rfl (by decide) (Nat.le_of_ble_eq_true rfl) (sp_X10_duplicateCount b) ?_ rfl
  refine ev_sub hQ (fun S1 hS1 hQ => ?_)
  refine ev_E.goal (pc' := 1923) (L' := [some (ev_x 0 k0), some (ev_o 9 a), some (ev_o 10 b), some (ev_o 21 o1), some (ev_o 22 o2), some (ev_i u5), none, none, none, none]) (K' := [ev_i (S.1 (b + 1) 5), ev_i (S.1 (a + 11) 5)]) (S' := S1) ?_ rfl rfl rfl hS1
  refine ev_icmp_eq 3142 dL_law_1923 (by decide) (fun c1 => ?_) (fun c1 => ?_)
  · replace hQ := hQ.1 c1
    exact hQ
  · replace hQ := hQ.2 c1
    refine ev_iconst (0) dL_law_1926 rfl ?_
    exact ev_ireturn .boolean dL_law_1927 rfl rfl hQ
set_option maxHeartbeats 4000000 in
set_option maxRecDepth 100000 in
theorem sg_L_law_1928 {g : ev_G} {S : ev_S} {Q : ev_O → ev_S → Prop} {B : Nat} (k0 a b o1 o2 : Nat) (u5 : Int32) (hQ : (vp_in (u5 + 1) (ev_sl g)) ∧ (
    ev_Cv g m_L_keptPromises 3 1 [ev_o 9 a, ev_i (ev_sx g (u5 + 1).toNatClampNeg), ev_o 21 o1] S (fun o S1 => ∃ v1_ : Int32, o = .inl (some (ev_i v1_)) ∧ (
      ev_Cv g m_X10_keptPromises 3 0 [ev_o 10 b, ev_i (ev_sx g (u5 + 1).toNatClampNeg)] S1 (fun o S2 => ∃ v2_ : Int32, o = .inl (some (ev_i v2_)) ∧ (
        ((S2.1 b 7) = v1_ → (
          (v1_ = 0 → (
            ((lg_cmp S2.2.1 v2_.toInt64) = 0 → (
              ev_E g m_L_law 52 (B + 1) 3142 [some (ev_x 0 k0), some (ev_o 9 a), some (ev_o 10 b), some (ev_o 21 o1), some (ev_o 22 o2), some (ev_i u5), none, none, none, none] [] S2 Q)) ∧
            (¬ ((lg_cmp S2.2.1 v2_.toInt64) = 0) → (
              Q (.inl (some (ev_i 0))) S2)))) ∧
          (¬ (v1_ = 0) → (
            ev_E g m_L_law 52 (B + 1) 3142 [some (ev_x 0 k0), some (ev_o 9 a), some (ev_o 10 b), some (ev_o 21 o1), some (ev_o 22 o2), some (ev_i u5), none, none, none, none] [] S2 Q)))) ∧
        (¬ ((S2.1 b 7) = v1_) → (
          Q (.inl (some (ev_i 0))) S2)))))))) : ev_E g m_L_law 52 (B + 2) 1928 [some (ev_x 0 k0), some (ev_o 9 a), some (ev_o 10 b), some (ev_o 21 o1), some (ev_o 22 o2), some (ev_i u5), none, none, none, none] [] S Q := by
  refine ev_aload_n (ev_o 9 a) dL_law_1928 rfl rfl ?_
  refine ev_aload_n (ev_x 0 k0) dL_law_1929 rfl rfl ?_
  refine ev_iload (u5) dL_law_1930 rfl ?_
  refine ev_iconst (1) dL_law_1932 rfl ?_
  refine ev_iadd dL_law_1933 ?_
  obtain ⟨h1, hQ⟩ := hQ
  refine ev_sld dL_law_1934 h1 ?_
  refine ev_aload_n (ev_o 21 o1) dL_law_1935 rfl rfl ?_
  refine ev_cH mh_L_keptPromises 3 1 [ev_o 9 a, ev_i (ev_sx g (u5 + 1).toNatClampNeg), ev_o 21 o1] [] dL_law_1936 kw_1557 rfl (by decide) (by omega) (Nat.le_of_ble_eq_true rfl) hQ ?_ rfl
  rintro o S1 ⟨v1_, rfl, hQ⟩
  show ev_E g m_L_law 52 (B + 1) 1939 [some (ev_x 0 k0), some (ev_o 9 a), some (ev_o 10 b), some (ev_o 21 o1), some (ev_o 22 o2), some (ev_i u5), none, none, none, none] [ev_i v1_] S1 Q
  refine ev_istore dL_law_1939 (Nat.le_of_ble_eq_true rfl) (ev_hw rfl) ?_
  show ev_E g m_L_law 52 (B + 1) 1941 [some (ev_x 0 k0), some (ev_o 9 a), some (ev_o 10 b), some (ev_o 21 o1), some (ev_o 22 o2), some (ev_i u5), some (ev_i v1_), none, none, none] [] S1 Q
  refine ev_aload_n (ev_o 10 b) dL_law_1941 rfl rfl ?_
  refine ev_aload_n (ev_x 0 k0) dL_law_1942 rfl rfl ?_
  refine ev_iload (u5) dL_law_1943 rfl ?_
  refine ev_iconst (1) dL_law_1945 rfl ?_
  refine ev_iadd dL_law_1946 ?_
  refine ev_sld dL_law_1947 h1 ?_
  refine ev_cV mv_X10_keptPromises 3 0 10 [ev_i (ev_sx g (u5 + 1).toNatClampNeg)] [] dL_law_1948 kw_2325 rfl (by decide) rfl (by decide) (by omega) (Nat.le_of_ble_eq_true rfl) hQ ?_ rfl
  rintro o S2 ⟨v2_, rfl, hQ⟩
  show ev_E g m_L_law 52 (B + 1) 1951 [some (ev_x 0 k0), some (ev_o 9 a), some (ev_o 10 b), some (ev_o 21 o1), some (ev_o 22 o2), some (ev_i u5), some (ev_i v1_), none, none, none] [ev_i v2_] S2 Q
  refine ev_istore dL_law_1951 (Nat.le_of_ble_eq_true rfl) (ev_hw rfl) ?_
  show ev_E g m_L_law 52 (B + 1) 1953 [some (ev_x 0 k0), some (ev_o 9 a), some (ev_o 10 b), some (ev_o 21 o1), some (ev_o 22 o2), some (ev_i u5), some (ev_i v1_), some (ev_i v2_), none, none] [] S2 Q
  refine ev_aload_n (ev_o 10 b) dL_law_1953 rfl rfl ?_
  refine ev_fV mv_X10_thrown 1 10 [] [] dL_law_1954 kw_1939 rfl (by decide) rfl (by decide) (Nat.le_of_ble_eq_true rfl) (sp_X10_thrown b) ?_ rfl
  refine ev_iload (v1_) dL_law_1957 rfl ?_
  refine ev_icmp_eq 1964 dL_law_1959 (by decide) (fun c1 => ?_) (fun c1 => ?_)
  · replace hQ := hQ.1 c1
    refine ev_iload (v1_) dL_law_1964 rfl ?_
    refine ev_if_ne 1981 dL_law_1966 (by decide) (fun c2 => ?_) (fun c2 => ?_)
    · replace hQ := hQ.2 c2
      refine ev_goto 3142 dL_law_1981 (by decide) ?_
      refine ev_fgm [true, true, true, true, true, true, false, false, false, false] ?_
      exact hQ
    · replace hQ := hQ.1 c2
      refine ev_aload_n (ev_o 21 o1) dL_law_1969 rfl rfl ?_
      refine ev_iconst (0) dL_law_1970 rfl ?_
      refine ev_laload dL_law_1971 ?_
      refine ev_iload (v2_) dL_law_1972 rfl ?_
      refine ev_i2l dL_law_1974 ?_
      refine ev_lcmp dL_law_1975 ?_
      refine ev_if_eq 1981 dL_law_1976 (by decide) (fun c3 => ?_) (fun c3 => ?_)
      · replace hQ := hQ.1 c3
        refine ev_goto 3142 dL_law_1981 (by decide) ?_
        refine ev_fgm [true, true, true, true, true, true, false, false, false, false] ?_
        exact hQ
      · replace hQ := hQ.2 c3
        refine ev_iconst (0) dL_law_1979 rfl ?_
        exact ev_ireturn .boolean dL_law_1980 rfl rfl hQ
  · replace hQ := hQ.2 c1
    refine ev_iconst (0) dL_law_1962 rfl ?_
    exact ev_ireturn .boolean dL_law_1963 rfl rfl hQ
set_option maxHeartbeats 4000000 in
set_option maxRecDepth 100000 in
theorem sg_L_law_1984 {g : ev_G} {S : ev_S} {Q : ev_O → ev_S → Prop} {B : Nat} (k0 a b o1 o2 : Nat) (u5 : Int32) (hQ : (vp_in (u5 + 1) (ev_sl g)) ∧ (
    ev_Cv g m_L_longestWait 3 1 [ev_o 9 a, ev_i (ev_sx g (u5 + 1).toNatClampNeg), ev_o 21 o1] S (fun o S1 => ∃ v1_ : Int32, o = .inl (some (ev_i v1_)) ∧ (
      ev_Cv g m_X10_longestWait 3 0 [ev_o 10 b, ev_i (ev_sx g (u5 + 1).toNatClampNeg)] S1 (fun o S2 => ∃ v2_ : Int32, o = .inl (some (ev_i v2_)) ∧ (
        ((S2.1 b 7) = v1_ → (
          (v1_ = 0 → (
            ((lg_cmp S2.2.1 v2_.toInt64) = 0 → (
              ev_E g m_L_law 52 (B + 1) 3142 [some (ev_x 0 k0), some (ev_o 9 a), some (ev_o 10 b), some (ev_o 21 o1), some (ev_o 22 o2), some (ev_i u5), none, none, none, none] [] S2 Q)) ∧
            (¬ ((lg_cmp S2.2.1 v2_.toInt64) = 0) → (
              Q (.inl (some (ev_i 0))) S2)))) ∧
          (¬ (v1_ = 0) → (
            ev_E g m_L_law 52 (B + 1) 3142 [some (ev_x 0 k0), some (ev_o 9 a), some (ev_o 10 b), some (ev_o 21 o1), some (ev_o 22 o2), some (ev_i u5), none, none, none, none] [] S2 Q)))) ∧
        (¬ ((S2.1 b 7) = v1_) → (
          Q (.inl (some (ev_i 0))) S2)))))))) : ev_E g m_L_law 52 (B + 2) 1984 [some (ev_x 0 k0), some (ev_o 9 a), some (ev_o 10 b), some (ev_o 21 o1), some (ev_o 22 o2), some (ev_i u5), none, none, none, none] [] S Q := by
  refine ev_aload_n (ev_o 9 a) dL_law_1984 rfl rfl ?_
  refine ev_aload_n (ev_x 0 k0) dL_law_1985 rfl rfl ?_
  refine ev_iload (u5) dL_law_1986 rfl ?_
  refine ev_iconst (1) dL_law_1988 rfl ?_
  refine ev_iadd dL_law_1989 ?_
  obtain ⟨h1, hQ⟩ := hQ
  refine ev_sld dL_law_1990 h1 ?_
  refine ev_aload_n (ev_o 21 o1) dL_law_1991 rfl rfl ?_
  refine ev_cH mh_L_longestWait 3 1 [ev_o 9 a, ev_i (ev_sx g (u5 + 1).toNatClampNeg), ev_o 21 o1] [] dL_law_1992 kw_1568 rfl (by decide) (by omega) (Nat.le_of_ble_eq_true rfl) hQ ?_ rfl
  rintro o S1 ⟨v1_, rfl, hQ⟩
  show ev_E g m_L_law 52 (B + 1) 1995 [some (ev_x 0 k0), some (ev_o 9 a), some (ev_o 10 b), some (ev_o 21 o1), some (ev_o 22 o2), some (ev_i u5), none, none, none, none] [ev_i v1_] S1 Q
  refine ev_istore dL_law_1995 (Nat.le_of_ble_eq_true rfl) (ev_hw rfl) ?_
  show ev_E g m_L_law 52 (B + 1) 1997 [some (ev_x 0 k0), some (ev_o 9 a), some (ev_o 10 b), some (ev_o 21 o1), some (ev_o 22 o2), some (ev_i u5), some (ev_i v1_), none, none, none] [] S1 Q
  refine ev_aload_n (ev_o 10 b) dL_law_1997 rfl rfl ?_
  refine ev_aload_n (ev_x 0 k0) dL_law_1998 rfl rfl ?_
  refine ev_iload (u5) dL_law_1999 rfl ?_
  refine ev_iconst (1) dL_law_2001 rfl ?_
  refine ev_iadd dL_law_2002 ?_
  refine ev_sld dL_law_2003 h1 ?_
  refine ev_cV mv_X10_longestWait 3 0 10 [ev_i (ev_sx g (u5 + 1).toNatClampNeg)] [] dL_law_2004 kw_2329 rfl (by decide) rfl (by decide) (by omega) (Nat.le_of_ble_eq_true rfl) hQ ?_ rfl
  rintro o S2 ⟨v2_, rfl, hQ⟩
  show ev_E g m_L_law 52 (B + 1) 2007 [some (ev_x 0 k0), some (ev_o 9 a), some (ev_o 10 b), some (ev_o 21 o1), some (ev_o 22 o2), some (ev_i u5), some (ev_i v1_), none, none, none] [ev_i v2_] S2 Q
  refine ev_istore dL_law_2007 (Nat.le_of_ble_eq_true rfl) (ev_hw rfl) ?_
  show ev_E g m_L_law 52 (B + 1) 2009 [some (ev_x 0 k0), some (ev_o 9 a), some (ev_o 10 b), some (ev_o 21 o1), some (ev_o 22 o2), some (ev_i u5), some (ev_i v1_), some (ev_i v2_), none, none] [] S2 Q
  refine ev_aload_n (ev_o 10 b) dL_law_2009 rfl rfl ?_
  refine ev_fV mv_X10_thrown 1 10 [] [] dL_law_2010 kw_1939 rfl (by decide) rfl (by decide) (Nat.le_of_ble_eq_true rfl) (sp_X10_thrown b) ?_ rfl
  refine ev_iload (v1_) dL_law_2013 rfl ?_
  refine ev_icmp_eq 2020 dL_law_2015 (by decide) (fun c1 => ?_) (fun c1 => ?_)
  · replace hQ := hQ.1 c1
    refine ev_iload (v1_) dL_law_2020 rfl ?_
    refine ev_if_ne 2037 dL_law_2022 (by decide) (fun c2 => ?_) (fun c2 => ?_)
    · replace hQ := hQ.2 c2
      refine ev_goto 3142 dL_law_2037 (by decide) ?_
      refine ev_fgm [true, true, true, true, true, true, false, false, false, false] ?_
      exact hQ
    · replace hQ := hQ.1 c2
      refine ev_aload_n (ev_o 21 o1) dL_law_2025 rfl rfl ?_
      refine ev_iconst (0) dL_law_2026 rfl ?_
      refine ev_laload dL_law_2027 ?_
      refine ev_iload (v2_) dL_law_2028 rfl ?_
      refine ev_i2l dL_law_2030 ?_
      refine ev_lcmp dL_law_2031 ?_
      refine ev_if_eq 2037 dL_law_2032 (by decide) (fun c3 => ?_) (fun c3 => ?_)
      · replace hQ := hQ.1 c3
        refine ev_goto 3142 dL_law_2037 (by decide) ?_
        refine ev_fgm [true, true, true, true, true, true, false, false, false, false] ?_
        exact hQ
      · replace hQ := hQ.2 c3
        refine ev_iconst (0) dL_law_2035 rfl ?_
        exact ev_ireturn .boolean dL_law_2036 rfl rfl hQ
  · replace hQ := hQ.2 c1
    refine ev_iconst (0) dL_law_2018 rfl ?_
    exact ev_ireturn .boolean dL_law_2019 rfl rfl hQ
set_option maxHeartbeats 4000000 in
set_option maxRecDepth 100000 in
theorem sg_L_law_2040 {g : ev_G} {S : ev_S} {Q : ev_O → ev_S → Prop} {B : Nat} (k0 a b o1 o2 : Nat) (u5 : Int32) (hQ : (vp_in (u5 + 1) (ev_sl g)) ∧ (
    ev_Cv g m_L_meanWait 3 1 [ev_o 9 a, ev_i (ev_sx g (u5 + 1).toNatClampNeg), ev_o 22 o2] S (fun o S1 => ∃ v1_ : Int32, o = .inl (some (ev_i v1_)) ∧ (
      ev_Cv g m_X10_meanWait 3 0 [ev_o 10 b, ev_i (ev_sx g (u5 + 1).toNatClampNeg)] S1 (fun o S2 => ∃ v2_ : UInt64, o = .inl (some (ev_d v2_)) ∧ (
        ((S2.1 b 7) = v1_ → (
          (v1_ = 0 → (
            ((j_dcmpl S2.2.2 v2_) = 0 → (
              ev_E g m_L_law 52 (B + 1) 3142 [some (ev_x 0 k0), some (ev_o 9 a), some (ev_o 10 b), some (ev_o 21 o1), some (ev_o 22 o2), some (ev_i u5), none, none, none, none] [] S2 Q)) ∧
            (¬ ((j_dcmpl S2.2.2 v2_) = 0) → (
              ((j_dcmpl S2.2.2 S2.2.2) = 0 → (
                Q (.inl (some (ev_i 0))) S2)) ∧
              (¬ ((j_dcmpl S2.2.2 S2.2.2) = 0) → (
                ((j_dcmpl v2_ v2_) = 0 → (
                  Q (.inl (some (ev_i 0))) S2)) ∧
                (¬ ((j_dcmpl v2_ v2_) = 0) → (
                  ev_E g m_L_law 52 (B + 1) 3142 [some (ev_x 0 k0), some (ev_o 9 a), some (ev_o 10 b), some (ev_o 21 o1), some (ev_o 22 o2), some (ev_i u5), none, none, none, none] [] S2 Q)))))))) ∧
          (¬ (v1_ = 0) → (
            ev_E g m_L_law 52 (B + 1) 3142 [some (ev_x 0 k0), some (ev_o 9 a), some (ev_o 10 b), some (ev_o 21 o1), some (ev_o 22 o2), some (ev_i u5), none, none, none, none] [] S2 Q)))) ∧
        (¬ ((S2.1 b 7) = v1_) → (
          Q (.inl (some (ev_i 0))) S2)))))))) : ev_E g m_L_law 52 (B + 2) 2040 [some (ev_x 0 k0), some (ev_o 9 a), some (ev_o 10 b), some (ev_o 21 o1), some (ev_o 22 o2), some (ev_i u5), none, none, none, none] [] S Q := by
  refine ev_aload_n (ev_o 9 a) dL_law_2040 rfl rfl ?_
  refine ev_aload_n (ev_x 0 k0) dL_law_2041 rfl rfl ?_
  refine ev_iload (u5) dL_law_2042 rfl ?_
  refine ev_iconst (1) dL_law_2044 rfl ?_
  refine ev_iadd dL_law_2045 ?_
  obtain ⟨h1, hQ⟩ := hQ
  refine ev_sld dL_law_2046 h1 ?_
  refine ev_aload (ev_o 22 o2) dL_law_2047 rfl rfl ?_
  refine ev_cH mh_L_meanWait 3 1 [ev_o 9 a, ev_i (ev_sx g (u5 + 1).toNatClampNeg), ev_o 22 o2] [] dL_law_2049 kw_1579 rfl (by decide) (by omega) (Nat.le_of_ble_eq_true rfl) hQ ?_ rfl
  rintro o S1 ⟨v1_, rfl, hQ⟩
  show ev_E g m_L_law 52 (B + 1) 2052 [some (ev_x 0 k0), some (ev_o 9 a), some (ev_o 10 b), some (ev_o 21 o1), some (ev_o 22 o2), some (ev_i u5), none, none, none, none] [ev_i v1_] S1 Q
  refine ev_istore dL_law_2052 (Nat.le_of_ble_eq_true rfl) (ev_hw rfl) ?_
  show ev_E g m_L_law 52 (B + 1) 2054 [some (ev_x 0 k0), some (ev_o 9 a), some (ev_o 10 b), some (ev_o 21 o1), some (ev_o 22 o2), some (ev_i u5), some (ev_i v1_), none, none, none] [] S1 Q
  refine ev_aload_n (ev_o 10 b) dL_law_2054 rfl rfl ?_
  refine ev_aload_n (ev_x 0 k0) dL_law_2055 rfl rfl ?_
  refine ev_iload (u5) dL_law_2056 rfl ?_
  refine ev_iconst (1) dL_law_2058 rfl ?_
  refine ev_iadd dL_law_2059 ?_
  refine ev_sld dL_law_2060 h1 ?_
  refine ev_cV mv_X10_meanWait 3 0 10 [ev_i (ev_sx g (u5 + 1).toNatClampNeg)] [] dL_law_2061 kw_2333 rfl (by decide) rfl (by decide) (by omega) (Nat.le_of_ble_eq_true rfl) hQ ?_ rfl
  rintro o S2 ⟨v2_, rfl, hQ⟩
  show ev_E g m_L_law 52 (B + 1) 2064 [some (ev_x 0 k0), some (ev_o 9 a), some (ev_o 10 b), some (ev_o 21 o1), some (ev_o 22 o2), some (ev_i u5), some (ev_i v1_), none, none, none] [ev_d v2_] S2 Q
  refine ev_dstore dL_law_2064 (Nat.le_of_ble_eq_true rfl) (ev_hw rfl) ?_
  show ev_E g m_L_law 52 (B + 1) 2066 [some (ev_x 0 k0), some (ev_o 9 a), some (ev_o 10 b), some (ev_o 21 o1), some (ev_o 22 o2), some (ev_i u5), some (ev_i v1_), some (ev_d v2_), none, none] [] S2 Q
  refine ev_aload_n (ev_o 10 b) dL_law_2066 rfl rfl ?_
  refine ev_fV mv_X10_thrown 1 10 [] [] dL_law_2067 kw_1939 rfl (by decide) rfl (by decide) (Nat.le_of_ble_eq_true rfl) (sp_X10_thrown b) ?_ rfl
  refine ev_iload (v1_) dL_law_2070 rfl ?_
  refine ev_icmp_eq 2077 dL_law_2072 (by decide) (fun c1 => ?_) (fun c1 => ?_)
  · replace hQ := hQ.1 c1
    refine ev_iload (v1_) dL_law_2077 rfl ?_
    refine ev_if_ne 2114 dL_law_2079 (by decide) (fun c2 => ?_) (fun c2 => ?_)
    · replace hQ := hQ.2 c2
      refine ev_goto 3142 dL_law_2114 (by decide) ?_
      refine ev_fgm [true, true, true, true, true, true, false, false, false, false] ?_
      exact hQ
    · replace hQ := hQ.1 c2
      refine ev_aload (ev_o 22 o2) dL_law_2082 rfl rfl ?_
      refine ev_iconst (0) dL_law_2084 rfl ?_
      refine ev_daload dL_law_2085 ?_
      refine ev_dload (v2_) dL_law_2086 rfl ?_
      refine ev_dcmp dL_law_2088 ?_
      show ev_E g m_L_law 52 (B + 1) 2089 [some (ev_x 0 k0), some (ev_o 9 a), some (ev_o 10 b), some (ev_o 21 o1), some (ev_o 22 o2), some (ev_i u5), some (ev_i v1_), some (ev_d v2_), none, none] [ev_i (j_dcmpl S2.2.2 v2_)] S2 Q
      refine ev_if_eq 2114 dL_law_2089 (by decide) (fun c3 => ?_) (fun c3 => ?_)
      · replace hQ := hQ.1 c3
        refine ev_goto 3142 dL_law_2114 (by decide) ?_
        refine ev_fgm [true, true, true, true, true, true, false, false, false, false] ?_
        exact hQ
      · replace hQ := hQ.2 c3
        refine ev_aload (ev_o 22 o2) dL_law_2092 rfl rfl ?_
        refine ev_iconst (0) dL_law_2094 rfl ?_
        refine ev_daload dL_law_2095 ?_
        refine ev_aload (ev_o 22 o2) dL_law_2096 rfl rfl ?_
        refine ev_iconst (0) dL_law_2098 rfl ?_
        refine ev_daload dL_law_2099 ?_
        refine ev_dcmp dL_law_2100 ?_
        show ev_E g m_L_law 52 (B + 1) 2101 [some (ev_x 0 k0), some (ev_o 9 a), some (ev_o 10 b), some (ev_o 21 o1), some (ev_o 22 o2), some (ev_i u5), some (ev_i v1_), some (ev_d v2_), none, none] [ev_i (j_dcmpl S2.2.2 S2.2.2)] S2 Q
        refine ev_if_eq 2112 dL_law_2101 (by decide) (fun c4 => ?_) (fun c4 => ?_)
        · replace hQ := hQ.1 c4
          refine ev_iconst (0) dL_law_2112 rfl ?_
          exact ev_ireturn .boolean dL_law_2113 rfl rfl hQ
        · replace hQ := hQ.2 c4
          refine ev_dload (v2_) dL_law_2104 rfl ?_
          refine ev_dload (v2_) dL_law_2106 rfl ?_
          refine ev_dcmp dL_law_2108 ?_
          show ev_E g m_L_law 52 (B + 1) 2109 [some (ev_x 0 k0), some (ev_o 9 a), some (ev_o 10 b), some (ev_o 21 o1), some (ev_o 22 o2), some (ev_i u5), some (ev_i v1_), some (ev_d v2_), none, none] [ev_i (j_dcmpl v2_ v2_)] S2 Q
          refine ev_if_ne 2114 dL_law_2109 (by decide) (fun c5 => ?_) (fun c5 => ?_)
          · replace hQ := hQ.2 c5
            refine ev_goto 3142 dL_law_2114 (by decide) ?_
            refine ev_fgm [true, true, true, true, true, true, false, false, false, false] ?_
            exact hQ
          · replace hQ := hQ.1 c5
            refine ev_iconst (0) dL_law_2112 rfl ?_
            exact ev_ireturn .boolean dL_law_2113 rfl rfl hQ
  · replace hQ := hQ.2 c1
    refine ev_iconst (0) dL_law_2075 rfl ?_
    exact ev_ireturn .boolean dL_law_2076 rfl rfl hQ
set_option maxHeartbeats 4000000 in
set_option maxRecDepth 100000 in
theorem sg_L_law_2117 {g : ev_G} {S : ev_S} {Q : ev_O → ev_S → Prop} {B : Nat} (k0 a b o1 o2 : Nat) (u5 : Int32) (hQ : ev_Cv g m_X9_meanTravel 2 0 [ev_o 9 a] S (fun o S1 => ∃ v1_ : UInt32, o = .inl (some (ev_f v1_)) ∧ (
    (vf_n64 (FP.f2d v1_)) ∧ (
      ev_Cv g m_X10_meanTravel 1 0 [ev_o 10 b] S1 (fun o S2 => ∃ v2_ : UInt32, o = .inl (some (ev_f v2_)) ∧ (
        (vf_n64 (FP.f2d v2_)) ∧ (
          ((j_dcmpl (FP.f2d v1_) (FP.f2d v2_)) = 0 → (
            ev_E g m_L_law 52 (B + 2) 3142 [some (ev_x 0 k0), some (ev_o 9 a), some (ev_o 10 b), some (ev_o 21 o1), some (ev_o 22 o2), some (ev_i u5), none, none, none, none] [] S2 Q)) ∧
          (¬ ((j_dcmpl (FP.f2d v1_) (FP.f2d v2_)) = 0) → (
            ((j_dcmpl (FP.f2d v1_) (FP.f2d v1_)) = 0 → (
              Q (.inl (some (ev_i 0))) S2)) ∧
            (¬ ((j_dcmpl (FP.f2d v1_) (FP.f2d v1_)) = 0) → (
              ((j_dcmpl (FP.f2d v2_) (FP.f2d v2_)) = 0 → (
                Q (.inl (some (ev_i 0))) S2)) ∧
              (¬ ((j_dcmpl (FP.f2d v2_) (FP.f2d v2_)) = 0) → (
                ev_E g m_L_law 52 (B + 2) 3142 [some (ev_x 0 k0), some (ev_o 9 a), some (ev_o 10 b), some (ev_o 21 o1), some (ev_o 22 o2), some (ev_i u5), none, none, none, none] [] S2 Q))))))))))))) : ev_E g m_L_law 52 (B + 2) 2117 [some (ev_x 0 k0), some (ev_o 9 a), some (ev_o 10 b), some (ev_o 21 o1), some (ev_o 22 o2), some (ev_i u5), none, none, none, none] [] S Q := by
  refine ev_aload_n (ev_o 9 a) dL_law_2117 rfl rfl ?_
  refine ev_cV mv_X9_meanTravel 2 0 9 [] [] dL_law_2118 kw_1153 rfl (by decide) rfl (by decide) (by omega) (Nat.le_of_ble_eq_true rfl) hQ ?_ rfl
  rintro o S1 ⟨v1_, rfl, hQ⟩
  show ev_E g m_L_law 52 (B + 2) 2121 [some (ev_x 0 k0), some (ev_o 9 a), some (ev_o 10 b), some (ev_o 21 o1), some (ev_o 22 o2), some (ev_i u5), none, none, none, none] [ev_f v1_] S1 Q
  obtain ⟨h1, hQ⟩ := hQ
  refine ev_f2d dL_law_2121 h1 ?_
  refine ev_dstore dL_law_2122 (Nat.le_of_ble_eq_true rfl) (ev_hw rfl) ?_
  show ev_E g m_L_law 52 (B + 2) 2124 [some (ev_x 0 k0), some (ev_o 9 a), some (ev_o 10 b), some (ev_o 21 o1), some (ev_o 22 o2), some (ev_i u5), some (ev_d (FP.f2d v1_)), none, none, none] [] S1 Q
  refine ev_aload_n (ev_o 10 b) dL_law_2124 rfl rfl ?_
  refine ev_cV mv_X10_meanTravel 1 0 10 [] [] dL_law_2125 kw_2337 rfl (by decide) rfl (by decide) (by omega) (Nat.le_of_ble_eq_true rfl) hQ ?_ rfl
  rintro o S2 ⟨v2_, rfl, hQ⟩
  show ev_E g m_L_law 52 (B + 2) 2128 [some (ev_x 0 k0), some (ev_o 9 a), some (ev_o 10 b), some (ev_o 21 o1), some (ev_o 22 o2), some (ev_i u5), some (ev_d (FP.f2d v1_)), none, none, none] [ev_f v2_] S2 Q
  obtain ⟨h2, hQ⟩ := hQ
  refine ev_f2d dL_law_2128 h2 ?_
  refine ev_dstore dL_law_2129 (Nat.le_of_ble_eq_true rfl) (ev_hw rfl) ?_
  show ev_E g m_L_law 52 (B + 2) 2131 [some (ev_x 0 k0), some (ev_o 9 a), some (ev_o 10 b), some (ev_o 21 o1), some (ev_o 22 o2), some (ev_i u5), some (ev_d (FP.f2d v1_)), none, some (ev_d (FP.f2d v2_)), none] [] S2 Q
  refine ev_dload ((FP.f2d v1_)) dL_law_2131 rfl ?_
  refine ev_dload ((FP.f2d v2_)) dL_law_2133 rfl ?_
  refine ev_dcmp dL_law_2135 ?_
  show ev_E g m_L_law 52 (B + 2) 2136 [some (ev_x 0 k0), some (ev_o 9 a), some (ev_o 10 b), some (ev_o 21 o1), some (ev_o 22 o2), some (ev_i u5), some (ev_d (FP.f2d v1_)), none, some (ev_d (FP.f2d v2_)), none] [ev_i (j_dcmpl (FP.f2d v1_) (FP.f2d v2_))] S2 Q
  refine ev_if_eq 2157 dL_law_2136 (by decide) (fun c1 => ?_) (fun c1 => ?_)
  · replace hQ := hQ.1 c1
    refine ev_goto 3142 dL_law_2157 (by decide) ?_
    refine ev_fgm [true, true, true, true, true, true, false, false, false, false] ?_
    exact hQ
  · replace hQ := hQ.2 c1
    refine ev_dload ((FP.f2d v1_)) dL_law_2139 rfl ?_
    refine ev_dload ((FP.f2d v1_)) dL_law_2141 rfl ?_
    refine ev_dcmp dL_law_2143 ?_
    show ev_E g m_L_law 52 (B + 2) 2144 [some (ev_x 0 k0), some (ev_o 9 a), some (ev_o 10 b), some (ev_o 21 o1), some (ev_o 22 o2), some (ev_i u5), some (ev_d (FP.f2d v1_)), none, some (ev_d (FP.f2d v2_)), none] [ev_i (j_dcmpl (FP.f2d v1_) (FP.f2d v1_))] S2 Q
    refine ev_if_eq 2155 dL_law_2144 (by decide) (fun c2 => ?_) (fun c2 => ?_)
    · replace hQ := hQ.1 c2
      refine ev_iconst (0) dL_law_2155 rfl ?_
      exact ev_ireturn .boolean dL_law_2156 rfl rfl hQ
    · replace hQ := hQ.2 c2
      refine ev_dload ((FP.f2d v2_)) dL_law_2147 rfl ?_
      refine ev_dload ((FP.f2d v2_)) dL_law_2149 rfl ?_
      refine ev_dcmp dL_law_2151 ?_
      show ev_E g m_L_law 52 (B + 2) 2152 [some (ev_x 0 k0), some (ev_o 9 a), some (ev_o 10 b), some (ev_o 21 o1), some (ev_o 22 o2), some (ev_i u5), some (ev_d (FP.f2d v1_)), none, some (ev_d (FP.f2d v2_)), none] [ev_i (j_dcmpl (FP.f2d v2_) (FP.f2d v2_))] S2 Q
      refine ev_if_ne 2157 dL_law_2152 (by decide) (fun c3 => ?_) (fun c3 => ?_)
      · replace hQ := hQ.2 c3
        refine ev_goto 3142 dL_law_2157 (by decide) ?_
        refine ev_fgm [true, true, true, true, true, true, false, false, false, false] ?_
        exact hQ
      · replace hQ := hQ.1 c3
        refine ev_iconst (0) dL_law_2155 rfl ?_
        exact ev_ireturn .boolean dL_law_2156 rfl rfl hQ
set_option maxHeartbeats 4000000 in
set_option maxRecDepth 100000 in
theorem sg_L_law_2160 {g : ev_G} {S : ev_S} {Q : ev_O → ev_S → Prop} {B : Nat} (k0 a b o1 o2 : Nat) (u5 : Int32) (hQ : ev_Cv g m_X9_contradictions 5 0 [ev_o 9 a] S (fun o S1 => ∃ v1_ : Int32, o = .inl (some (ev_i v1_)) ∧ (
    ev_Cv g m_X10_contradictions 3 0 [ev_o 10 b] S1 (fun o S2 => ∃ v2_ : Int32, o = .inl (some (ev_i v2_)) ∧ (
      (v1_ = v2_ → (
        ev_E g m_L_law 52 (B + 2) 3142 [some (ev_x 0 k0), some (ev_o 9 a), some (ev_o 10 b), some (ev_o 21 o1), some (ev_o 22 o2), some (ev_i u5), none, none, none, none] [] S2 Q)) ∧
      (¬ (v1_ = v2_) → (
        Q (.inl (some (ev_i 0))) S2))))))) : ev_E g m_L_law 52 (B + 2) 2160 [some (ev_x 0 k0), some (ev_o 9 a), some (ev_o 10 b), some (ev_o 21 o1), some (ev_o 22 o2), some (ev_i u5), none, none, none, none] [] S Q := by
  refine ev_aload_n (ev_o 9 a) dL_law_2160 rfl rfl ?_
  refine ev_cV mv_X9_contradictions 5 0 9 [] [] dL_law_2161 kw_1165 rfl (by decide) rfl (by decide) (by omega) (Nat.le_of_ble_eq_true rfl) hQ ?_ rfl
  rintro o S1 ⟨v1_, rfl, hQ⟩
  show ev_E g m_L_law 52 (B + 2) 2164 [some (ev_x 0 k0), some (ev_o 9 a), some (ev_o 10 b), some (ev_o 21 o1), some (ev_o 22 o2), some (ev_i u5), none, none, none, none] [ev_i v1_] S1 Q
  refine ev_aload_n (ev_o 10 b) dL_law_2164 rfl rfl ?_
  refine ev_cV mv_X10_contradictions 3 0 10 [] [ev_i v1_] dL_law_2165 kw_2341 rfl (by decide) rfl (by decide) (by omega) (Nat.le_of_ble_eq_true rfl) hQ ?_ rfl
  rintro o S2 ⟨v2_, rfl, hQ⟩
  show ev_E g m_L_law 52 (B + 2) 2168 [some (ev_x 0 k0), some (ev_o 9 a), some (ev_o 10 b), some (ev_o 21 o1), some (ev_o 22 o2), some (ev_i u5), none, none, none, none] [ev_i v2_, ev_i v1_] S2 Q
  refine ev_icmp_eq 3142 dL_law_2168 (by decide) (fun c1 => ?_) (fun c1 => ?_)
  · replace hQ := hQ.1 c1
    exact hQ
  · replace hQ := hQ.2 c1
    refine ev_iconst (0) dL_law_2171 rfl ?_
    exact ev_ireturn .boolean dL_law_2172 rfl rfl hQ
set_option maxHeartbeats 4000000 in
set_option maxRecDepth 100000 in
theorem sg_L_law_2173 {g : ev_G} {S : ev_S} {Q : ev_O → ev_S → Prop} {B : Nat} (k0 a b o1 o2 : Nat) (u5 : Int32) (hQ : (vp_in (u5 + 1) (ev_sl g)) ∧ (
    ev_Cv g m_L_arrivalDay 6 1 [ev_o 9 a, ev_i (ev_sx g (u5 + 1).toNatClampNeg), ev_o 21 o1] S (fun o S1 => ∃ v1_ : Int32, o = .inl (some (ev_i v1_)) ∧ (
      ev_Cv g m_X10_arrivalDay 10 0 [ev_o 10 b, ev_i (ev_sx g (u5 + 1).toNatClampNeg)] S1 (fun o S2 => ∃ v2_ : Int32, o = .inl (some (ev_i v2_)) ∧ (
        ((S2.1 b 7) = v1_ → (
          (v1_ = 0 → (
            ((lg_cmp S2.2.1 v2_.toInt64) = 0 → (
              ev_E g m_L_law 52 (B + 1) 3142 [some (ev_x 0 k0), some (ev_o 9 a), some (ev_o 10 b), some (ev_o 21 o1), some (ev_o 22 o2), some (ev_i u5), none, none, none, none] [] S2 Q)) ∧
            (¬ ((lg_cmp S2.2.1 v2_.toInt64) = 0) → (
              Q (.inl (some (ev_i 0))) S2)))) ∧
          (¬ (v1_ = 0) → (
            ev_E g m_L_law 52 (B + 1) 3142 [some (ev_x 0 k0), some (ev_o 9 a), some (ev_o 10 b), some (ev_o 21 o1), some (ev_o 22 o2), some (ev_i u5), none, none, none, none] [] S2 Q)))) ∧
        (¬ ((S2.1 b 7) = v1_) → (
          Q (.inl (some (ev_i 0))) S2)))))))) : ev_E g m_L_law 52 (B + 2) 2173 [some (ev_x 0 k0), some (ev_o 9 a), some (ev_o 10 b), some (ev_o 21 o1), some (ev_o 22 o2), some (ev_i u5), none, none, none, none] [] S Q := by
  refine ev_aload_n (ev_o 9 a) dL_law_2173 rfl rfl ?_
  refine ev_aload_n (ev_x 0 k0) dL_law_2174 rfl rfl ?_
  refine ev_iload (u5) dL_law_2175 rfl ?_
  refine ev_iconst (1) dL_law_2177 rfl ?_
  refine ev_iadd dL_law_2178 ?_
  obtain ⟨h1, hQ⟩ := hQ
  refine ev_sld dL_law_2179 h1 ?_
  refine ev_aload_n (ev_o 21 o1) dL_law_2180 rfl rfl ?_
  refine ev_cH mh_L_arrivalDay 6 1 [ev_o 9 a, ev_i (ev_sx g (u5 + 1).toNatClampNeg), ev_o 21 o1] [] dL_law_2181 kw_1594 rfl (by decide) (by omega) (Nat.le_of_ble_eq_true rfl) hQ ?_ rfl
  rintro o S1 ⟨v1_, rfl, hQ⟩
  show ev_E g m_L_law 52 (B + 1) 2184 [some (ev_x 0 k0), some (ev_o 9 a), some (ev_o 10 b), some (ev_o 21 o1), some (ev_o 22 o2), some (ev_i u5), none, none, none, none] [ev_i v1_] S1 Q
  refine ev_istore dL_law_2184 (Nat.le_of_ble_eq_true rfl) (ev_hw rfl) ?_
  show ev_E g m_L_law 52 (B + 1) 2186 [some (ev_x 0 k0), some (ev_o 9 a), some (ev_o 10 b), some (ev_o 21 o1), some (ev_o 22 o2), some (ev_i u5), some (ev_i v1_), none, none, none] [] S1 Q
  refine ev_aload_n (ev_o 10 b) dL_law_2186 rfl rfl ?_
  refine ev_aload_n (ev_x 0 k0) dL_law_2187 rfl rfl ?_
  refine ev_iload (u5) dL_law_2188 rfl ?_
  refine ev_iconst (1) dL_law_2190 rfl ?_
  refine ev_iadd dL_law_2191 ?_
  refine ev_sld dL_law_2192 h1 ?_
  refine ev_cV mv_X10_arrivalDay 10 0 10 [ev_i (ev_sx g (u5 + 1).toNatClampNeg)] [] dL_law_2193 kw_2345 rfl (by decide) rfl (by decide) (by omega) (Nat.le_of_ble_eq_true rfl) hQ ?_ rfl
  rintro o S2 ⟨v2_, rfl, hQ⟩
  show ev_E g m_L_law 52 (B + 1) 2196 [some (ev_x 0 k0), some (ev_o 9 a), some (ev_o 10 b), some (ev_o 21 o1), some (ev_o 22 o2), some (ev_i u5), some (ev_i v1_), none, none, none] [ev_i v2_] S2 Q
  refine ev_istore dL_law_2196 (Nat.le_of_ble_eq_true rfl) (ev_hw rfl) ?_
  show ev_E g m_L_law 52 (B + 1) 2198 [some (ev_x 0 k0), some (ev_o 9 a), some (ev_o 10 b), some (ev_o 21 o1), some (ev_o 22 o2), some (ev_i u5), some (ev_i v1_), some (ev_i v2_), none, none] [] S2 Q
  refine ev_aload_n (ev_o 10 b) dL_law_2198 rfl rfl ?_
  refine ev_fV mv_X10_thrown 1 10 [] [] dL_law_2199 kw_1939 rfl (by decide) rfl (by decide) (Nat.le_of_ble_eq_true rfl) (sp_X10_thrown b) ?_ rfl
  refine ev_iload (v1_) dL_law_2202 rfl ?_
  refine ev_icmp_eq 2209 dL_law_2204 (by decide) (fun c1 => ?_) (fun c1 => ?_)
  · replace hQ := hQ.1 c1
    refine ev_iload (v1_) dL_law_2209 rfl ?_
    refine ev_if_ne 2226 dL_law_2211 (by decide) (fun c2 => ?_) (fun c2 => ?_)
    · replace hQ := hQ.2 c2
      refine ev_goto 3142 dL_law_2226 (by decide) ?_
      refine ev_fgm [true, true, true, true, true, true, false, false, false, false] ?_
      exact hQ
    · replace hQ := hQ.1 c2
      refine ev_aload_n (ev_o 21 o1) dL_law_2214 rfl rfl ?_
      refine ev_iconst (0) dL_law_2215 rfl ?_
      refine ev_laload dL_law_2216 ?_
      refine ev_iload (v2_) dL_law_2217 rfl ?_
      refine ev_i2l dL_law_2219 ?_
      refine ev_lcmp dL_law_2220 ?_
      refine ev_if_eq 2226 dL_law_2221 (by decide) (fun c3 => ?_) (fun c3 => ?_)
      · replace hQ := hQ.1 c3
        refine ev_goto 3142 dL_law_2226 (by decide) ?_
        refine ev_fgm [true, true, true, true, true, true, false, false, false, false] ?_
        exact hQ
      · replace hQ := hQ.2 c3
        refine ev_iconst (0) dL_law_2224 rfl ?_
        exact ev_ireturn .boolean dL_law_2225 rfl rfl hQ
  · replace hQ := hQ.2 c1
    refine ev_iconst (0) dL_law_2207 rfl ?_
    exact ev_ireturn .boolean dL_law_2208 rfl rfl hQ
