set_option maxHeartbeats 4000000 in
set_option maxRecDepth 100000 in
theorem sg_X10_begins_0 {g : ev_G} {S : ev_S} {Q : ev_O → ev_S → Prop} (a : Nat) (hQ : ev_E g m_X10_begins 2 0 2 [some (ev_o 10 a), some (ev_i 0)] [] S Q) : ev_Cv g m_X10_begins 2 0 [ev_o 10 a] S Q := by
  refine ev_enter (by decide) rfl rfl (Nat.le_of_ble_eq_true rfl) ?_
  show ev_E g m_X10_begins 2 0 0 [some (ev_o 10 a), none] [] S Q
  refine ev_iconst (0) dX10_begins_0 rfl ?_
  refine ev_istore_n dX10_begins_1 (Nat.le_of_ble_eq_true rfl) (ev_hw rfl) ?_
  show ev_E g m_X10_begins 2 0 2 [some (ev_o 10 a), some (ev_i 0)] [] S Q
  exact hQ
set_option maxHeartbeats 4000000 in
set_option maxRecDepth 100000 in
theorem sg_X10_begins_2 {g : ev_G} {S : ev_S} {Q : ev_O → ev_S → Prop} (a : Nat) (u1 : Int32) (hQ : (2091 ≤ u1 → (
    ev_E g m_X10_begins 2 0 24 [some (ev_o 10 a), some (ev_i 0)] [] S Q)) ∧
  (¬ (2091 ≤ u1) → (
    (vp_in u1 2091) ∧ (
      ∀ S1 : ev_S, S1 = (ev_up S (a + 1) u1.toNatClampNeg 0) → (
        ev_E g m_X10_begins 2 0 2 [some (ev_o 10 a), some (ev_i (u1 + 1))] [] S1 Q))))) : ev_E g m_X10_begins 2 0 2 [some (ev_o 10 a), some (ev_i u1)] [] S Q := by
  refine ev_iload_n (u1) dX10_begins_2 rfl ?_
  refine ev_sipush (2091) dX10_begins_3 (by decide) ?_
  refine ev_icmp_ge 22 dX10_begins_6 (by decide) (fun c1 => ?_) (fun c1 => ?_)
  · replace hQ := hQ.1 c1
    refine ev_iconst (0) dX10_begins_22 rfl ?_
    refine ev_istore_n dX10_begins_23 (Nat.le_of_ble_eq_true rfl) (ev_hw rfl) ?_
    show ev_E g m_X10_begins 2 0 24 [some (ev_o 10 a), some (ev_i 0)] [] S Q
    exact hQ
  · replace hQ := hQ.2 c1
    refine ev_aload_n (ev_o 10 a) dX10_begins_9 rfl rfl ?_
    refine gf_10_0 dX10_begins_10 kw_1853 ?_
    refine ev_iload_n (u1) dX10_begins_13 rfl ?_
    refine ev_iconst (0) dX10_begins_14 rfl ?_
    obtain ⟨h1, hQ⟩ := hQ
    refine ev_iastore dX10_begins_15 h1 ?_
    refine ev_sub hQ (fun S1 hS1 hQ => ?_)
    refine ev_E.goal (pc' := 16) (L' := [some (ev_o 10 a), some (ev_i u1)]) (K' := []) (S' := S1) ?_ rfl rfl rfl hS1
    refine ev_iinc u1 (1) dX10_begins_16 rfl (by decide) (ev_hw rfl) ?_
    show ev_E g m_X10_begins 2 0 19 [some (ev_o 10 a), some (ev_i (u1 + 1))] [] S1 Q
    refine ev_goto 2 dX10_begins_19 (by decide) ?_
    exact hQ
set_option maxHeartbeats 4000000 in
set_option maxRecDepth 100000 in
theorem sg_X10_begins_24 {g : ev_G} {S : ev_S} {Q : ev_O → ev_S → Prop} (a : Nat) (u1 : Int32) (hQ : (128 ≤ u1 → (
    ev_E g m_X10_begins 2 0 49 [some (ev_o 10 a), some (ev_i 0)] [] S Q)) ∧
  (¬ (128 ≤ u1) → (
    (vp_in (26 + u1) 2091) ∧ (
      ∀ S1 : ev_S, S1 = (ev_up S (a + 1) (26 + u1).toNatClampNeg (-1)) → (
        ev_E g m_X10_begins 2 0 24 [some (ev_o 10 a), some (ev_i (u1 + 1))] [] S1 Q))))) : ev_E g m_X10_begins 2 0 24 [some (ev_o 10 a), some (ev_i u1)] [] S Q := by
  refine ev_iload_n (u1) dX10_begins_24 rfl ?_
  refine ev_sipush (128) dX10_begins_25 (by decide) ?_
  refine ev_icmp_ge 47 dX10_begins_28 (by decide) (fun c1 => ?_) (fun c1 => ?_)
  · replace hQ := hQ.1 c1
    refine ev_iconst (0) dX10_begins_47 rfl ?_
    refine ev_istore_n dX10_begins_48 (Nat.le_of_ble_eq_true rfl) (ev_hw rfl) ?_
    show ev_E g m_X10_begins 2 0 49 [some (ev_o 10 a), some (ev_i 0)] [] S Q
    exact hQ
  · replace hQ := hQ.2 c1
    refine ev_aload_n (ev_o 10 a) dX10_begins_31 rfl rfl ?_
    refine gf_10_0 dX10_begins_32 kw_1853 ?_
    refine ev_bipush (26) dX10_begins_35 (by decide) ?_
    refine ev_iload_n (u1) dX10_begins_37 rfl ?_
    refine ev_iadd dX10_begins_38 ?_
    refine ev_iconst (-1) dX10_begins_39 rfl ?_
    obtain ⟨h1, hQ⟩ := hQ
    refine ev_iastore dX10_begins_40 h1 ?_
    refine ev_sub hQ (fun S1 hS1 hQ => ?_)
    refine ev_E.goal (pc' := 41) (L' := [some (ev_o 10 a), some (ev_i u1)]) (K' := []) (S' := S1) ?_ rfl rfl rfl hS1
    refine ev_iinc u1 (1) dX10_begins_41 rfl (by decide) (ev_hw rfl) ?_
    show ev_E g m_X10_begins 2 0 44 [some (ev_o 10 a), some (ev_i (u1 + 1))] [] S1 Q
    refine ev_goto 24 dX10_begins_44 (by decide) ?_
    exact hQ
set_option maxHeartbeats 4000000 in
set_option maxRecDepth 100000 in
theorem sg_X10_begins_49 {g : ev_G} {S : ev_S} {Q : ev_O → ev_S → Prop} (a : Nat) (u1 : Int32) (hQ : (248 ≤ u1 → (
    (vp_in ((12 + (7 * 0)) + 2) 2091) ∧ (
      ∀ S1 : ev_S, S1 = (ev_up S (a + 1) (((12 + (7 * 0)) + 2) : Int32).toNatClampNeg (-1)) → (
        (vp_in ((12 + (7 * 1)) + 2) 2091) ∧ (
          ∀ S2 : ev_S, S2 = (ev_up S1 (a + 1) (((12 + (7 * 1)) + 2) : Int32).toNatClampNeg (-1)) → (
            Q (.inl none) S2)))))) ∧
  (¬ (248 ≤ u1) → (
    (vp_in (514 + u1) 2091) ∧ (
      ∀ S3 : ev_S, S3 = (ev_up S (a + 1) (514 + u1).toNatClampNeg (-1)) → (
        ev_E g m_X10_begins 2 0 49 [some (ev_o 10 a), some (ev_i (u1 + 1))] [] S3 Q))))) : ev_E g m_X10_begins 2 0 49 [some (ev_o 10 a), some (ev_i u1)] [] S Q := by
  refine ev_iload_n (u1) dX10_begins_49 rfl ?_
  refine ev_sipush (248) dX10_begins_50 (by decide) ?_
  refine ev_icmp_ge 73 dX10_begins_53 (by decide) (fun c1 => ?_) (fun c1 => ?_)
  · replace hQ := hQ.1 c1
    refine ev_aload_n (ev_o 10 a) dX10_begins_73 rfl rfl ?_
    refine ev_iconst (0) dX10_begins_74 rfl ?_
    refine ev_iconst (2) dX10_begins_75 rfl ?_
    refine ev_iconst (-1) dX10_begins_76 rfl ?_
    obtain ⟨h1, hQ⟩ := hQ
    refine ev_fVn mv_X10_putP 1 10 [ev_i 0, ev_i 2, ev_i (-1)] [] dX10_begins_77 kw_1765 rfl (by decide) rfl (by decide) (Nat.le_of_ble_eq_true rfl) (sp_X10_putP a 0 2 (-1) h1) ?_ rfl
    refine ev_sub hQ (fun S1 hS1 hQ => ?_)
    refine ev_E.goal (pc' := 80) (L' := [some (ev_o 10 a), some (ev_i u1)]) (K' := []) (S' := S1) ?_ rfl rfl rfl hS1
    refine ev_aload_n (ev_o 10 a) dX10_begins_80 rfl rfl ?_
    refine ev_iconst (1) dX10_begins_81 rfl ?_
    refine ev_iconst (2) dX10_begins_82 rfl ?_
    refine ev_iconst (-1) dX10_begins_83 rfl ?_
    obtain ⟨h2, hQ⟩ := hQ
    refine ev_fVn mv_X10_putP 1 10 [ev_i 1, ev_i 2, ev_i (-1)] [] dX10_begins_84 kw_1765 rfl (by decide) rfl (by decide) (Nat.le_of_ble_eq_true rfl) (sp_X10_putP a 1 2 (-1) h2) ?_ rfl
    refine ev_sub hQ (fun S2 hS2 hQ => ?_)
    refine ev_E.goal (pc' := 87) (L' := [some (ev_o 10 a), some (ev_i u1)]) (K' := []) (S' := S2) ?_ rfl rfl rfl hS2
    exact ev_return dX10_begins_87 rfl hQ
  · replace hQ := hQ.2 c1
    refine ev_aload_n (ev_o 10 a) dX10_begins_56 rfl rfl ?_
    refine gf_10_0 dX10_begins_57 kw_1853 ?_
    refine ev_sipush (514) dX10_begins_60 (by decide) ?_
    refine ev_iload_n (u1) dX10_begins_63 rfl ?_
    refine ev_iadd dX10_begins_64 ?_
    refine ev_iconst (-1) dX10_begins_65 rfl ?_
    obtain ⟨h3, hQ⟩ := hQ
    refine ev_iastore dX10_begins_66 h3 ?_
    refine ev_sub hQ (fun S3 hS3 hQ => ?_)
    refine ev_E.goal (pc' := 67) (L' := [some (ev_o 10 a), some (ev_i u1)]) (K' := []) (S' := S3) ?_ rfl rfl rfl hS3
    refine ev_iinc u1 (1) dX10_begins_67 rfl (by decide) (ev_hw rfl) ?_
    show ev_E g m_X10_begins 2 0 70 [some (ev_o 10 a), some (ev_i (u1 + 1))] [] S3 Q
    refine ev_goto 49 dX10_begins_70 (by decide) ?_
    exact hQ
set_option maxHeartbeats 4000000 in
set_option maxRecDepth 100000 in
theorem sg_X10_seen_0 {g : ev_G} {S : ev_S} {Q : ev_O → ev_S → Prop} (a : Nat) (x0 : Int32) (hQ : ((S.1 a 10) ≤ x0 → (
    Q (.inl (some (ev_i (-1)))) S)) ∧
  (¬ ((S.1 a 10) ≤ x0) → (
    (vp_in x0 800) ∧ (
      Q (.inl (some (ev_i (S.1 (a + 7) x0.toNatClampNeg)))) S)))) : ev_Cv g m_X10_seen 1 0 [ev_o 10 a, ev_i x0] S Q := by
  refine ev_enter (by decide) rfl rfl (Nat.le_of_ble_eq_true rfl) ?_
  show ev_E g m_X10_seen 1 0 0 [some (ev_o 10 a), some (ev_i x0)] [] S Q
  refine ev_iload_n (x0) dX10_seen_0 rfl ?_
  refine ev_aload_n (ev_o 10 a) dX10_seen_1 rfl rfl ?_
  refine gf_10_10 dX10_seen_2 kw_1863 ?_
  refine ev_icmp_ge 17 dX10_seen_5 (by decide) (fun c1 => ?_) (fun c1 => ?_)
  · replace hQ := hQ.1 c1
    refine ev_iconst (-1) dX10_seen_17 rfl ?_
    exact ev_ireturn .int dX10_seen_18 rfl rfl hQ
  · replace hQ := hQ.2 c1
    refine ev_aload_n (ev_o 10 a) dX10_seen_8 rfl rfl ?_
    refine gf_10_9 dX10_seen_9 kw_1862 ?_
    refine ev_iload_n (x0) dX10_seen_12 rfl ?_
    obtain ⟨h1, hQ⟩ := hQ
    refine ev_iaload dX10_seen_13 h1 ?_
    refine ev_goto 18 dX10_seen_14 (by decide) ?_
    exact ev_ireturn .int dX10_seen_18 rfl rfl hQ
def f_X10_seen (S : ev_S) (a : Nat) (x0 : Int32) : Int32 := if (S.1 a 10) ≤ x0 then ((-1)) else ((S.1 (a + 7) x0.toNatClampNeg))
set_option maxHeartbeats 4000000 in
set_option maxRecDepth 100000 in
theorem sp_X10_seen {g : ev_G} {S : ev_S} (a : Nat) (x0 : Int32) (q0 : ¬ ((S.1 a 10) ≤ x0) → vp_in x0 800) : ev_Fn g m_X10_seen 1 [ev_o 10 a, ev_i x0] S (some (ev_i (f_X10_seen S a x0))) S := by
  intro Q hQ
  refine sg_X10_seen_0 a x0 ?_
  unfold f_X10_seen at hQ
  refine ⟨fun c1 => ?_, fun c1 => ?_⟩
  · rw [if_pos c1] at hQ
    exact hQ
  · rw [if_neg c1] at hQ
    refine ⟨(q0 c1), ?_⟩
    exact hQ
set_option maxHeartbeats 4000000 in
set_option maxRecDepth 100000 in
theorem sg_X10_in_0 {g : ev_G} {S : ev_S} {Q : ev_O → ev_S → Prop} (x0 : Int32) (x1 : Int32) (x2 : Int32) (hQ : (x0 < x1 → (
    Q (.inl (some (ev_i 0))) S)) ∧
  (¬ (x0 < x1) → (
    (x2 < x0 → (
      Q (.inl (some (ev_i 0))) S)) ∧
    (¬ (x2 < x0) → (
      Q (.inl (some (ev_i 1))) S))))) : ev_Cv g m_X10_in 1 0 [ev_i x0, ev_i x1, ev_i x2] S Q := by
  refine ev_enter (by decide) rfl rfl (Nat.le_of_ble_eq_true rfl) ?_
  show ev_E g m_X10_in 1 0 0 [some (ev_i x0), some (ev_i x1), some (ev_i x2)] [] S Q
  refine ev_iload_n (x1) dX10_in_0 rfl ?_
  refine ev_iload_n (x0) dX10_in_1 rfl ?_
  refine ev_icmp_gt 14 dX10_in_2 (by decide) (fun c1 => ?_) (fun c1 => ?_)
  · replace hQ := hQ.1 c1
    refine ev_iconst (0) dX10_in_14 rfl ?_
    exact ev_ireturn .boolean dX10_in_15 rfl rfl hQ
  · replace hQ := hQ.2 c1
    refine ev_iload_n (x0) dX10_in_5 rfl ?_
    refine ev_iload_n (x2) dX10_in_6 rfl ?_
    refine ev_icmp_gt 14 dX10_in_7 (by decide) (fun c2 => ?_) (fun c2 => ?_)
    · replace hQ := hQ.1 c2
      refine ev_iconst (0) dX10_in_14 rfl ?_
      exact ev_ireturn .boolean dX10_in_15 rfl rfl hQ
    · replace hQ := hQ.2 c2
      refine ev_iconst (1) dX10_in_10 rfl ?_
      refine ev_goto 15 dX10_in_11 (by decide) ?_
      exact ev_ireturn .boolean dX10_in_15 rfl rfl hQ
def t_X10_in (x0 : Int32) (x1 : Int32) (x2 : Int32) : Bool := if x0 < x1 then (false) else (if x2 < x0 then (false) else (true))
set_option maxHeartbeats 4000000 in
set_option maxRecDepth 100000 in
theorem sp_X10_in {g : ev_G} {S : ev_S} (x0 : Int32) (x1 : Int32) (x2 : Int32)  : ev_Fn g m_X10_in 1 [ev_i x0, ev_i x1, ev_i x2] S (some (ev_i (if (t_X10_in x0 x1 x2) = true then 1 else 0))) S := by
  intro Q hQ
  refine sg_X10_in_0 x0 x1 x2 ?_
  unfold t_X10_in at hQ
  refine ⟨fun c1 => ?_, fun c1 => ?_⟩
  · rw [if_pos c1] at hQ
    exact hQ
  · rw [if_neg c1] at hQ
    refine ⟨fun c2 => ?_, fun c2 => ?_⟩
    · rw [if_pos c2] at hQ
      exact hQ
    · rw [if_neg c2] at hQ
      exact hQ
set_option maxHeartbeats 4000000 in
set_option maxRecDepth 100000 in
theorem sg_X10_reads_0 {g : ev_G} {S : ev_S} {Q : ev_O → ev_S → Prop} (a : Nat) (hQ : ev_E g m_X10_reads 2 0 0 [some (ev_o 10 a), none] [] S Q) : ev_Cv g m_X10_reads 2 0 [ev_o 10 a] S Q := by
  refine ev_enter (by decide) rfl rfl (Nat.le_of_ble_eq_true rfl) ?_
  show ev_E g m_X10_reads 2 0 0 [some (ev_o 10 a), none] [] S Q
  exact hQ
set_option maxHeartbeats 4000000 in
set_option maxRecDepth 100000 in
theorem sg_X10_reads_h0 {g : ev_G} {S : ev_S} {Q : ev_O → ev_S → Prop} (a : Nat) (hQ : (¬ ((S.1 a 10) ≤ (S.1 a 13)) → vp_in (S.1 a 13) 800) ∧ (
    ((f_X10_seen S a (S.1 a 13)) = 32 → (
      ∀ S1 : ev_S, S1 = (ev_up S a 13 ((S.1 a 13) + 1)) → (
        ev_E g m_X10_reads 2 0 0 [some (ev_o 10 a), none] [] S1 Q))) ∧
    (¬ ((f_X10_seen S a (S.1 a 13)) = 32) → (
      ((f_X10_seen S a (S.1 a 13)) = 10 → (
        ∀ S15 : ev_S, S15 = (ev_up S a 13 ((S.1 a 13) + 1)) → (
          ev_E g m_X10_reads 2 0 0 [some (ev_o 10 a), none] [] S15 Q))) ∧
      (¬ ((f_X10_seen S a (S.1 a 13)) = 10) → (
        ∀ S2 : ev_S, S2 = (ev_up S a 14 (S.1 a 13)) → (
          (¬ ((S2.1 a 10) ≤ (S.1 a 13)) → vp_in (S.1 a 13) 800) ∧ (
            ((f_X10_seen S2 a (S.1 a 13)) = (-1) → (
              ∀ S14 : ev_S, S14 = (ev_up S2 a 15 0) → (
                Q (.inl none) S14))) ∧
            (¬ ((f_X10_seen S2 a (S.1 a 13)) = (-1)) → (
              ((t_X10_in (f_X10_seen S2 a (S.1 a 13)) 97 122) = true → (
                ∀ S3 : ev_S, S3 = (ev_up S2 a 15 1) → (
                  ev_E g m_X10_reads 2 0 85 [some (ev_o 10 a), none] [] S3 Q))) ∧
              (¬ ((t_X10_in (f_X10_seen S2 a (S.1 a 13)) 97 122) = true) → (
                ((t_X10_in (f_X10_seen S2 a (S.1 a 13)) 48 57) = true → (
                  ∀ S4 : ev_S, S4 = (ev_up S2 a 15 2) → (
                    ∀ S5 : ev_S, S5 = (ev_up S4 a 16 0) → (
                      ev_E g m_X10_reads 2 0 137 [some (ev_o 10 a), none] [] S5 Q)))) ∧
                (¬ ((t_X10_in (f_X10_seen S2 a (S.1 a 13)) 48 57) = true) → (
                  ((f_X10_seen S2 a (S.1 a 13)) = 59 → (
                    ∀ S6 : ev_S, S6 = (ev_up S2 a 15 3) → (
                      ∀ S7 : ev_S, S7 = (ev_up S6 a 13 ((S.1 a 13) + 1)) → (
                        Q (.inl none) S7)))) ∧
                  (¬ ((f_X10_seen S2 a (S.1 a 13)) = 59) → (
                    ((f_X10_seen S2 a (S.1 a 13)) = 40 → (
                      ∀ S8 : ev_S, S8 = (ev_up S2 a 15 3) → (
                        ∀ S9 : ev_S, S9 = (ev_up S8 a 13 ((S.1 a 13) + 1)) → (
                          Q (.inl none) S9)))) ∧
                    (¬ ((f_X10_seen S2 a (S.1 a 13)) = 40) → (
                      ((f_X10_seen S2 a (S.1 a 13)) = 41 → (
                        ∀ S12 : ev_S, S12 = (ev_up S2 a 15 3) → (
                          ∀ S13 : ev_S, S13 = (ev_up S12 a 13 ((S.1 a 13) + 1)) → (
                            Q (.inl none) S13)))) ∧
                      (¬ ((f_X10_seen S2 a (S.1 a 13)) = 41) → (
                        ∀ S10 : ev_S, S10 = (ev_up S2 a 15 4) → (
                          ∀ S11 : ev_S, S11 = (ev_up S10 a 13 ((S.1 a 13) + 1)) → (
                            Q (.inl none) S11)))))))))))))))))))))) : ev_E g m_X10_reads 2 0 0 [some (ev_o 10 a), none] [] S Q := by
  refine ev_aload_n (ev_o 10 a) dX10_reads_0 rfl rfl ?_
  refine ev_aload_n (ev_o 10 a) dX10_reads_1 rfl rfl ?_
  refine gf_10_13 dX10_reads_2 kw_1866 ?_
  obtain ⟨h1, hQ⟩ := hQ
  refine ev_fV mv_X10_seen 1 10 [ev_i (S.1 a 13)] [] dX10_reads_5 kw_1777 rfl (by decide) rfl (by decide) (Nat.le_of_ble_eq_true rfl) (sp_X10_seen a (S.1 a 13) h1) ?_ rfl
  refine ev_bipush (32) dX10_reads_8 (by decide) ?_
  refine ev_icmp_eq 26 dX10_reads_10 (by decide) (fun c1 => ?_) (fun c1 => ?_)
  · replace hQ := hQ.1 c1
    refine ev_aload_n (ev_o 10 a) dX10_reads_26 rfl rfl ?_
    refine ev_dup dX10_reads_27 rfl ?_
    refine gf_10_13 dX10_reads_28 kw_1866 ?_
    refine ev_iconst (1) dX10_reads_31 rfl ?_
    refine ev_iadd dX10_reads_32 ?_
    refine pf_10_13 dX10_reads_33 kw_1866 ?_
    refine ev_sub hQ (fun S1 hS1 hQ => ?_)
    refine ev_E.goal (pc' := 36) (L' := [some (ev_o 10 a), none]) (K' := []) (S' := S1) ?_ rfl rfl rfl hS1
    refine ev_goto 0 dX10_reads_36 (by decide) ?_
    exact hQ
  · replace hQ := hQ.2 c1
    refine ev_aload_n (ev_o 10 a) dX10_reads_13 rfl rfl ?_
    refine ev_aload_n (ev_o 10 a) dX10_reads_14 rfl rfl ?_
    refine gf_10_13 dX10_reads_15 kw_1866 ?_
    refine ev_fV mv_X10_seen 1 10 [ev_i (S.1 a 13)] [] dX10_reads_18 kw_1777 rfl (by decide) rfl (by decide) (Nat.le_of_ble_eq_true rfl) (sp_X10_seen a (S.1 a 13) h1) ?_ rfl
    refine ev_bipush (10) dX10_reads_21 (by decide) ?_
    refine ev_icmp_ne 39 dX10_reads_23 (by decide) (fun c2 => ?_) (fun c2 => ?_)
    · replace hQ := hQ.2 c2
      refine ev_aload_n (ev_o 10 a) dX10_reads_39 rfl rfl ?_
      refine ev_aload_n (ev_o 10 a) dX10_reads_40 rfl rfl ?_
      refine gf_10_13 dX10_reads_41 kw_1866 ?_
      refine pf_10_14 dX10_reads_44 kw_1867 ?_
      refine ev_sub hQ (fun S2 hS2 hQ => ?_)
      refine ev_E.goal (pc' := 47) (L' := [some (ev_o 10 a), none]) (K' := []) (S' := S2) ?_ rfl rfl rfl hS2
      refine ev_aload_n (ev_o 10 a) dX10_reads_47 rfl rfl ?_
      refine ev_aload_n (ev_o 10 a) dX10_reads_48 rfl rfl ?_
      refine gf_10_13 dX10_reads_49 kw_1866 ?_
      refine ev_ke (j_rk hS2 (Or.inr (by decide))) ?_
      obtain ⟨h2, hQ⟩ := hQ
      refine ev_fV mv_X10_seen 1 10 [ev_i (S.1 a 13)] [] dX10_reads_52 kw_1777 rfl (by decide) rfl (by decide) (Nat.le_of_ble_eq_true rfl) (sp_X10_seen a (S.1 a 13) h2) ?_ rfl
      refine ev_istore_n dX10_reads_55 (Nat.le_of_ble_eq_true rfl) (ev_hw rfl) ?_
      show ev_E g m_X10_reads 2 0 56 [some (ev_o 10 a), some (ev_i (f_X10_seen S2 a (S.1 a 13)))] [] S2 Q
      refine ev_iload_n ((f_X10_seen S2 a (S.1 a 13))) dX10_reads_56 rfl ?_
      refine ev_iconst (-1) dX10_reads_57 rfl ?_
      refine ev_icmp_ne 69 dX10_reads_58 (by decide) (fun c3 => ?_) (fun c3 => ?_)
      · replace hQ := hQ.2 c3
        refine ev_iload_n ((f_X10_seen S2 a (S.1 a 13))) dX10_reads_69 rfl ?_
        refine ev_bipush (97) dX10_reads_70 (by decide) ?_
        refine ev_bipush (122) dX10_reads_72 (by decide) ?_
        refine ev_fS ms_X10_in 1 [ev_i (f_X10_seen S2 a (S.1 a 13)), ev_i 97, ev_i 122] [] dX10_reads_74 kw_1781 rfl (by decide) (Nat.le_of_ble_eq_true rfl) (sp_X10_in (f_X10_seen S2 a (S.1 a 13)) 97 122) ?_ rfl
        by_cases c4 : (t_X10_in (f_X10_seen S2 a (S.1 a 13)) 97 122) = true
        · rw [if_pos c4]
          replace hQ := hQ.1 c4
          refine ev_if_eq 116 dX10_reads_77 (by decide) (fun h9 => absurd h9 (by decide : ¬ ((1 : Int32) = 0))) (fun _ => ?_)
          refine ev_aload_n (ev_o 10 a) dX10_reads_80 rfl rfl ?_
          refine ev_iconst (1) dX10_reads_81 rfl ?_
          refine pf_10_15 dX10_reads_82 kw_1868 ?_
          refine ev_sub hQ (fun S3 hS3 hQ => ?_)
          refine ev_E.goal (pc' := 85) (L' := [some (ev_o 10 a), some (ev_i (f_X10_seen S2 a (S.1 a 13)))]) (K' := []) (S' := S3) ?_ rfl rfl rfl hS3
          refine ev_fgm [true, false] ?_
          exact hQ
        · rw [if_neg c4]
          replace hQ := hQ.2 c4
          refine ev_if_eq 116 dX10_reads_77 (by decide) (fun _ => ?_) (fun h9 => absurd (by decide : ((0 : Int32) = 0)) h9)
          refine ev_iload_n ((f_X10_seen S2 a (S.1 a 13))) dX10_reads_116 rfl ?_
          refine ev_bipush (48) dX10_reads_117 (by decide) ?_
          refine ev_bipush (57) dX10_reads_119 (by decide) ?_
          refine ev_fS ms_X10_in 1 [ev_i (f_X10_seen S2 a (S.1 a 13)), ev_i 48, ev_i 57] [] dX10_reads_121 kw_1781 rfl (by decide) (Nat.le_of_ble_eq_true rfl) (sp_X10_in (f_X10_seen S2 a (S.1 a 13)) 48 57) ?_ rfl
          by_cases c5 : (t_X10_in (f_X10_seen S2 a (S.1 a 13)) 48 57) = true
          · rw [if_pos c5]
            replace hQ := hQ.1 c5
            refine ev_if_eq 197 dX10_reads_124 (by decide) (fun h9 => absurd h9 (by decide : ¬ ((1 : Int32) = 0))) (fun _ => ?_)
            refine ev_aload_n (ev_o 10 a) dX10_reads_127 rfl rfl ?_
            refine ev_iconst (2) dX10_reads_128 rfl ?_
            refine pf_10_15 dX10_reads_129 kw_1868 ?_
            refine ev_sub hQ (fun S4 hS4 hQ => ?_)
            refine ev_E.goal (pc' := 132) (L' := [some (ev_o 10 a), some (ev_i (f_X10_seen S2 a (S.1 a 13)))]) (K' := []) (S' := S4) ?_ rfl rfl rfl hS4
            refine ev_aload_n (ev_o 10 a) dX10_reads_132 rfl rfl ?_
            refine ev_iconst (0) dX10_reads_133 rfl ?_
            refine pf_10_16 dX10_reads_134 kw_1869 ?_
            refine ev_sub hQ (fun S5 hS5 hQ => ?_)
            refine ev_E.goal (pc' := 137) (L' := [some (ev_o 10 a), some (ev_i (f_X10_seen S2 a (S.1 a 13)))]) (K' := []) (S' := S5) ?_ rfl rfl rfl hS5
            refine ev_fgm [true, false] ?_
            exact hQ
          · rw [if_neg c5]
            replace hQ := hQ.2 c5
            refine ev_if_eq 197 dX10_reads_124 (by decide) (fun _ => ?_) (fun h9 => absurd (by decide : ((0 : Int32) = 0)) h9)
            refine ev_aload_n (ev_o 10 a) dX10_reads_197 rfl rfl ?_
            refine ev_iload_n ((f_X10_seen S2 a (S.1 a 13))) dX10_reads_198 rfl ?_
            refine ev_bipush (59) dX10_reads_199 (by decide) ?_
            refine ev_icmp_eq 216 dX10_reads_201 (by decide) (fun c6 => ?_) (fun c6 => ?_)
            · replace hQ := hQ.1 c6
              refine ev_iconst (3) dX10_reads_216 rfl ?_
              refine ev_goto 221 dX10_reads_217 (by decide) ?_
              refine pf_10_15 dX10_reads_221 kw_1868 ?_
              refine ev_sub hQ (fun S6 hS6 hQ => ?_)
              refine ev_E.goal (pc' := 224) (L' := [some (ev_o 10 a), some (ev_i (f_X10_seen S2 a (S.1 a 13)))]) (K' := []) (S' := S6) ?_ rfl rfl rfl hS6
              refine ev_aload_n (ev_o 10 a) dX10_reads_224 rfl rfl ?_
              refine ev_dup dX10_reads_225 rfl ?_
              refine gf_10_13 dX10_reads_226 kw_1866 ?_
              refine ev_ke ((j_rk hS6 (Or.inr (by decide))).trans (j_rk hS2 (Or.inr (by decide)))) ?_
              refine ev_iconst (1) dX10_reads_229 rfl ?_
              refine ev_iadd dX10_reads_230 ?_
              refine pf_10_13 dX10_reads_231 kw_1866 ?_
              refine ev_sub hQ (fun S7 hS7 hQ => ?_)
              refine ev_E.goal (pc' := 234) (L' := [some (ev_o 10 a), some (ev_i (f_X10_seen S2 a (S.1 a 13)))]) (K' := []) (S' := S7) ?_ rfl rfl rfl hS7
              exact ev_return dX10_reads_234 rfl hQ
            · replace hQ := hQ.2 c6
              refine ev_iload_n ((f_X10_seen S2 a (S.1 a 13))) dX10_reads_204 rfl ?_
              refine ev_bipush (40) dX10_reads_205 (by decide) ?_
              refine ev_icmp_eq 216 dX10_reads_207 (by decide) (fun c7 => ?_) (fun c7 => ?_)
              · replace hQ := hQ.1 c7
                refine ev_iconst (3) dX10_reads_216 rfl ?_
                refine ev_goto 221 dX10_reads_217 (by decide) ?_
                refine pf_10_15 dX10_reads_221 kw_1868 ?_
                refine ev_sub hQ (fun S8 hS8 hQ => ?_)
                refine ev_E.goal (pc' := 224) (L' := [some (ev_o 10 a), some (ev_i (f_X10_seen S2 a (S.1 a 13)))]) (K' := []) (S' := S8) ?_ rfl rfl rfl hS8
                refine ev_aload_n (ev_o 10 a) dX10_reads_224 rfl rfl ?_
                refine ev_dup dX10_reads_225 rfl ?_
                refine gf_10_13 dX10_reads_226 kw_1866 ?_
                refine ev_ke ((j_rk hS8 (Or.inr (by decide))).trans (j_rk hS2 (Or.inr (by decide)))) ?_
                refine ev_iconst (1) dX10_reads_229 rfl ?_
                refine ev_iadd dX10_reads_230 ?_
                refine pf_10_13 dX10_reads_231 kw_1866 ?_
                refine ev_sub hQ (fun S9 hS9 hQ => ?_)
                refine ev_E.goal (pc' := 234) (L' := [some (ev_o 10 a), some (ev_i (f_X10_seen S2 a (S.1 a 13)))]) (K' := []) (S' := S9) ?_ rfl rfl rfl hS9
                exact ev_return dX10_reads_234 rfl hQ
              · replace hQ := hQ.2 c7
                refine ev_iload_n ((f_X10_seen S2 a (S.1 a 13))) dX10_reads_210 rfl ?_
                refine ev_bipush (41) dX10_reads_211 (by decide) ?_
                refine ev_icmp_ne 220 dX10_reads_213 (by decide) (fun c8 => ?_) (fun c8 => ?_)
                · replace hQ := hQ.2 c8
                  refine ev_iconst (4) dX10_reads_220 rfl ?_
                  refine pf_10_15 dX10_reads_221 kw_1868 ?_
                  refine ev_sub hQ (fun S10 hS10 hQ => ?_)
                  refine ev_E.goal (pc' := 224) (L' := [some (ev_o 10 a), some (ev_i (f_X10_seen S2 a (S.1 a 13)))]) (K' := []) (S' := S10) ?_ rfl rfl rfl hS10
                  refine ev_aload_n (ev_o 10 a) dX10_reads_224 rfl rfl ?_
                  refine ev_dup dX10_reads_225 rfl ?_
                  refine gf_10_13 dX10_reads_226 kw_1866 ?_
                  refine ev_ke ((j_rk hS10 (Or.inr (by decide))).trans (j_rk hS2 (Or.inr (by decide)))) ?_
                  refine ev_iconst (1) dX10_reads_229 rfl ?_
                  refine ev_iadd dX10_reads_230 ?_
                  refine pf_10_13 dX10_reads_231 kw_1866 ?_
                  refine ev_sub hQ (fun S11 hS11 hQ => ?_)
                  refine ev_E.goal (pc' := 234) (L' := [some (ev_o 10 a), some (ev_i (f_X10_seen S2 a (S.1 a 13)))]) (K' := []) (S' := S11) ?_ rfl rfl rfl hS11
                  exact ev_return dX10_reads_234 rfl hQ
                · replace hQ := hQ.1 c8
                  refine ev_iconst (3) dX10_reads_216 rfl ?_
                  refine ev_goto 221 dX10_reads_217 (by decide) ?_
                  refine pf_10_15 dX10_reads_221 kw_1868 ?_
                  refine ev_sub hQ (fun S12 hS12 hQ => ?_)
                  refine ev_E.goal (pc' := 224) (L' := [some (ev_o 10 a), some (ev_i (f_X10_seen S2 a (S.1 a 13)))]) (K' := []) (S' := S12) ?_ rfl rfl rfl hS12
                  refine ev_aload_n (ev_o 10 a) dX10_reads_224 rfl rfl ?_
                  refine ev_dup dX10_reads_225 rfl ?_
                  refine gf_10_13 dX10_reads_226 kw_1866 ?_
                  refine ev_ke ((j_rk hS12 (Or.inr (by decide))).trans (j_rk hS2 (Or.inr (by decide)))) ?_
                  refine ev_iconst (1) dX10_reads_229 rfl ?_
                  refine ev_iadd dX10_reads_230 ?_
                  refine pf_10_13 dX10_reads_231 kw_1866 ?_
                  refine ev_sub hQ (fun S13 hS13 hQ => ?_)
                  refine ev_E.goal (pc' := 234) (L' := [some (ev_o 10 a), some (ev_i (f_X10_seen S2 a (S.1 a 13)))]) (K' := []) (S' := S13) ?_ rfl rfl rfl hS13
                  exact ev_return dX10_reads_234 rfl hQ
      · replace hQ := hQ.1 c3
        refine ev_aload_n (ev_o 10 a) dX10_reads_61 rfl rfl ?_
        refine ev_iconst (0) dX10_reads_62 rfl ?_
        refine pf_10_15 dX10_reads_63 kw_1868 ?_
        refine ev_sub hQ (fun S14 hS14 hQ => ?_)
        refine ev_E.goal (pc' := 66) (L' := [some (ev_o 10 a), some (ev_i (f_X10_seen S2 a (S.1 a 13)))]) (K' := []) (S' := S14) ?_ rfl rfl rfl hS14
        refine ev_goto 234 dX10_reads_66 (by decide) ?_
        exact ev_return dX10_reads_234 rfl hQ
    · replace hQ := hQ.1 c2
      refine ev_aload_n (ev_o 10 a) dX10_reads_26 rfl rfl ?_
      refine ev_dup dX10_reads_27 rfl ?_
      refine gf_10_13 dX10_reads_28 kw_1866 ?_
      refine ev_iconst (1) dX10_reads_31 rfl ?_
      refine ev_iadd dX10_reads_32 ?_
      refine pf_10_13 dX10_reads_33 kw_1866 ?_
      refine ev_sub hQ (fun S15 hS15 hQ => ?_)
      refine ev_E.goal (pc' := 36) (L' := [some (ev_o 10 a), none]) (K' := []) (S' := S15) ?_ rfl rfl rfl hS15
      refine ev_goto 0 dX10_reads_36 (by decide) ?_
      exact hQ
set_option maxHeartbeats 4000000 in
set_option maxRecDepth 100000 in
theorem sg_X10_reads_85 {g : ev_G} {S : ev_S} {Q : ev_O → ev_S → Prop} (a : Nat) (hQ : (¬ ((S.1 a 10) ≤ (S.1 a 13)) → vp_in (S.1 a 13) 800) ∧ (
    ((t_X10_in (f_X10_seen S a (S.1 a 13)) 97 122) = true → (
      ∀ S1 : ev_S, S1 = (ev_up S a 13 ((S.1 a 13) + 1)) → (
        ev_E g m_X10_reads 2 0 85 [some (ev_o 10 a), none] [] S1 Q))) ∧
    (¬ ((t_X10_in (f_X10_seen S a (S.1 a 13)) 97 122) = true) → (
      Q (.inl none) S)))) : ev_E g m_X10_reads 2 0 85 [some (ev_o 10 a), none] [] S Q := by
  refine ev_aload_n (ev_o 10 a) dX10_reads_85 rfl rfl ?_
  refine ev_aload_n (ev_o 10 a) dX10_reads_86 rfl rfl ?_
  refine gf_10_13 dX10_reads_87 kw_1866 ?_
  obtain ⟨h1, hQ⟩ := hQ
  refine ev_fV mv_X10_seen 1 10 [ev_i (S.1 a 13)] [] dX10_reads_90 kw_1777 rfl (by decide) rfl (by decide) (Nat.le_of_ble_eq_true rfl) (sp_X10_seen a (S.1 a 13) h1) ?_ rfl
  refine ev_bipush (97) dX10_reads_93 (by decide) ?_
  refine ev_bipush (122) dX10_reads_95 (by decide) ?_
  refine ev_fS ms_X10_in 1 [ev_i (f_X10_seen S a (S.1 a 13)), ev_i 97, ev_i 122] [] dX10_reads_97 kw_1781 rfl (by decide) (Nat.le_of_ble_eq_true rfl) (sp_X10_in (f_X10_seen S a (S.1 a 13)) 97 122) ?_ rfl
  by_cases c1 : (t_X10_in (f_X10_seen S a (S.1 a 13)) 97 122) = true
  · rw [if_pos c1]
    replace hQ := hQ.1 c1
    refine ev_if_eq 234 dX10_reads_100 (by decide) (fun h9 => absurd h9 (by decide : ¬ ((1 : Int32) = 0))) (fun _ => ?_)
    refine ev_aload_n (ev_o 10 a) dX10_reads_103 rfl rfl ?_
    refine ev_dup dX10_reads_104 rfl ?_
    refine gf_10_13 dX10_reads_105 kw_1866 ?_
    refine ev_iconst (1) dX10_reads_108 rfl ?_
    refine ev_iadd dX10_reads_109 ?_
    refine pf_10_13 dX10_reads_110 kw_1866 ?_
    refine ev_sub hQ (fun S1 hS1 hQ => ?_)
    refine ev_E.goal (pc' := 113) (L' := [some (ev_o 10 a), none]) (K' := []) (S' := S1) ?_ rfl rfl rfl hS1
    refine ev_goto 85 dX10_reads_113 (by decide) ?_
    exact hQ
  · rw [if_neg c1]
    replace hQ := hQ.2 c1
    refine ev_if_eq 234 dX10_reads_100 (by decide) (fun _ => ?_) (fun h9 => absurd (by decide : ((0 : Int32) = 0)) h9)
    exact ev_return dX10_reads_234 rfl hQ
set_option maxHeartbeats 4000000 in
set_option maxRecDepth 100000 in
theorem sg_X10_reads_137 {g : ev_G} {S : ev_S} {Q : ev_O → ev_S → Prop} (a : Nat) (hQ : (¬ ((S.1 a 10) ≤ (S.1 a 13)) → vp_in (S.1 a 13) 800) ∧ (
    ((t_X10_in (f_X10_seen S a (S.1 a 13)) 48 57) = true → (
      ∀ S1 : ev_S, S1 = (ev_up S a 16 (ev_min 1000 (((10 * (S.1 a 16)) + (f_X10_seen S a (S.1 a 13))) - 48))) → (
        ∀ S2 : ev_S, S2 = (ev_up S1 a 13 ((S.1 a 13) + 1)) → (
          ev_E g m_X10_reads 2 0 137 [some (ev_o 10 a), none] [] S2 Q)))) ∧
    (¬ ((t_X10_in (f_X10_seen S a (S.1 a 13)) 48 57) = true) → (
      Q (.inl none) S)))) : ev_E g m_X10_reads 2 0 137 [some (ev_o 10 a), none] [] S Q := by
  refine ev_aload_n (ev_o 10 a) dX10_reads_137 rfl rfl ?_
  refine ev_aload_n (ev_o 10 a) dX10_reads_138 rfl rfl ?_
  refine gf_10_13 dX10_reads_139 kw_1866 ?_
  obtain ⟨h1, hQ⟩ := hQ
  refine ev_fV mv_X10_seen 1 10 [ev_i (S.1 a 13)] [] dX10_reads_142 kw_1777 rfl (by decide) rfl (by decide) (Nat.le_of_ble_eq_true rfl) (sp_X10_seen a (S.1 a 13) h1) ?_ rfl
  refine ev_bipush (48) dX10_reads_145 (by decide) ?_
  refine ev_bipush (57) dX10_reads_147 (by decide) ?_
  refine ev_fS ms_X10_in 1 [ev_i (f_X10_seen S a (S.1 a 13)), ev_i 48, ev_i 57] [] dX10_reads_149 kw_1781 rfl (by decide) (Nat.le_of_ble_eq_true rfl) (sp_X10_in (f_X10_seen S a (S.1 a 13)) 48 57) ?_ rfl
  by_cases c1 : (t_X10_in (f_X10_seen S a (S.1 a 13)) 48 57) = true
  · rw [if_pos c1]
    replace hQ := hQ.1 c1
    refine ev_if_eq 234 dX10_reads_152 (by decide) (fun h9 => absurd h9 (by decide : ¬ ((1 : Int32) = 0))) (fun _ => ?_)
    refine ev_aload_n (ev_o 10 a) dX10_reads_155 rfl rfl ?_
    refine ev_sipush (1000) dX10_reads_156 (by decide) ?_
    refine ev_bipush (10) dX10_reads_159 (by decide) ?_
    refine ev_aload_n (ev_o 10 a) dX10_reads_161 rfl rfl ?_
    refine gf_10_16 dX10_reads_162 kw_1869 ?_
    refine ev_imul dX10_reads_165 ?_
    refine ev_aload_n (ev_o 10 a) dX10_reads_166 rfl rfl ?_
    refine ev_aload_n (ev_o 10 a) dX10_reads_167 rfl rfl ?_
    refine gf_10_13 dX10_reads_168 kw_1866 ?_
    refine ev_fV mv_X10_seen 1 10 [ev_i (S.1 a 13)] [ev_i (10 * (S.1 a 16)), ev_i 1000, ev_o 10 a] dX10_reads_171 kw_1777 rfl (by decide) rfl (by decide) (Nat.le_of_ble_eq_true rfl) (sp_X10_seen a (S.1 a 13) h1) ?_ rfl
    refine ev_iadd dX10_reads_174 ?_
    refine ev_bipush (48) dX10_reads_175 (by decide) ?_
    refine ev_isub dX10_reads_177 ?_
    refine ev_mathMin dX10_reads_178 kw_1784 kw_513 kw_123 kw_514 (Nat.le_of_ble_eq_true rfl) ?_
    refine pf_10_16 dX10_reads_181 kw_1869 ?_
    refine ev_sub hQ (fun S1 hS1 hQ => ?_)
    refine ev_E.goal (pc' := 184) (L' := [some (ev_o 10 a), none]) (K' := []) (S' := S1) ?_ rfl rfl rfl hS1
    refine ev_aload_n (ev_o 10 a) dX10_reads_184 rfl rfl ?_
    refine ev_dup dX10_reads_185 rfl ?_
    refine gf_10_13 dX10_reads_186 kw_1866 ?_
    refine ev_ke (j_rk hS1 (Or.inr (by decide))) ?_
    refine ev_iconst (1) dX10_reads_189 rfl ?_
    refine ev_iadd dX10_reads_190 ?_
    refine pf_10_13 dX10_reads_191 kw_1866 ?_
    refine ev_sub hQ (fun S2 hS2 hQ => ?_)
    refine ev_E.goal (pc' := 194) (L' := [some (ev_o 10 a), none]) (K' := []) (S' := S2) ?_ rfl rfl rfl hS2
    refine ev_goto 137 dX10_reads_194 (by decide) ?_
    exact hQ
  · rw [if_neg c1]
    replace hQ := hQ.2 c1
    refine ev_if_eq 234 dX10_reads_152 (by decide) (fun _ => ?_) (fun h9 => absurd (by decide : ((0 : Int32) = 0)) h9)
    exact ev_return dX10_reads_234 rfl hQ
set_option maxHeartbeats 4000000 in
set_option maxRecDepth 100000 in
theorem sg_X10_starts_0 {g : ev_G} {S : ev_S} {Q : ev_O → ev_S → Prop} (a : Nat) (hQ : ∀ S1 : ev_S, S1 = (ev_up S a 13 0) → (
    ∀ S2 : ev_S, S2 = (ev_up S1 a 17 0) → (
      ∀ S3 : ev_S, S3 = (ev_up S2 a 18 (-1)) → (
        ev_Cv g m_X10_reads 2 0 [ev_o 10 a] S3 (fun o S4 => o = .inl none ∧ (
          Q (.inl none) S4)))))) : ev_Cv g m_X10_starts 3 0 [ev_o 10 a] S Q := by
  refine ev_enter (by decide) rfl rfl (Nat.le_of_ble_eq_true rfl) ?_
  show ev_E g m_X10_starts 3 0 0 [some (ev_o 10 a)] [] S Q
  refine ev_aload_n (ev_o 10 a) dX10_starts_0 rfl rfl ?_
  refine ev_iconst (0) dX10_starts_1 rfl ?_
  refine pf_10_13 dX10_starts_2 kw_1866 ?_
  refine ev_sub hQ (fun S1 hS1 hQ => ?_)
  refine ev_E.goal (pc' := 5) (L' := [some (ev_o 10 a)]) (K' := []) (S' := S1) ?_ rfl rfl rfl hS1
  refine ev_aload_n (ev_o 10 a) dX10_starts_5 rfl rfl ?_
  refine ev_iconst (0) dX10_starts_6 rfl ?_
  refine pf_10_17 dX10_starts_7 kw_1870 ?_
  refine ev_sub hQ (fun S2 hS2 hQ => ?_)
  refine ev_E.goal (pc' := 10) (L' := [some (ev_o 10 a)]) (K' := []) (S' := S2) ?_ rfl rfl rfl hS2
  refine ev_aload_n (ev_o 10 a) dX10_starts_10 rfl rfl ?_
  refine ev_iconst (-1) dX10_starts_11 rfl ?_
  refine pf_10_18 dX10_starts_12 kw_1871 ?_
  refine ev_sub hQ (fun S3 hS3 hQ => ?_)
  refine ev_E.goal (pc' := 15) (L' := [some (ev_o 10 a)]) (K' := []) (S' := S3) ?_ rfl rfl rfl hS3
  refine ev_aload_n (ev_o 10 a) dX10_starts_15 rfl rfl ?_
  refine ev_cV mv_X10_reads 2 0 10 [] [] dX10_starts_16 kw_1773 rfl (by decide) rfl (by decide) (by decide) (Nat.le_of_ble_eq_true rfl) hQ ?_ rfl
  rintro o S4 ⟨rfl, hQ⟩
  show ev_E g m_X10_starts 3 0 19 [some (ev_o 10 a)] [] S4 Q
  exact ev_return dX10_starts_19 rfl hQ
set_option maxHeartbeats 4000000 in
set_option maxRecDepth 100000 in
theorem sg_X10_isWord_0 {g : ev_G} {S : ev_S} {Q : ev_O → ev_S → Prop} (a : Nat) (k0 : Nat) (hQ : ((S.1 a 17) = 0 → (
    ((S.1 a 15) = 1 → (
      (((S.1 a 13) - (S.1 a 14)) = (j_ishr (Int32.ofNat (ev_le.getD k0 0)) 0) → (
        ev_E g m_X10_isWord 5 0 35 [some (ev_o 10 a), some (ev_x 1 k0), some (ev_i 0)] [] S Q)) ∧
      (¬ (((S.1 a 13) - (S.1 a 14)) = (j_ishr (Int32.ofNat (ev_le.getD k0 0)) 0)) → (
        Q (.inl (some (ev_i 0))) S)))) ∧
    (¬ ((S.1 a 15) = 1) → (
      Q (.inl (some (ev_i 0))) S)))) ∧
  (¬ ((S.1 a 17) = 0) → (
    Q (.inl (some (ev_i 0))) S))) : ev_Cv g m_X10_isWord 5 0 [ev_o 10 a, ev_x 1 k0] S Q := by
  refine ev_enter (by decide) rfl rfl (Nat.le_of_ble_eq_true rfl) ?_
  show ev_E g m_X10_isWord 5 0 0 [some (ev_o 10 a), some (ev_x 1 k0), none] [] S Q
  refine ev_aload_n (ev_o 10 a) dX10_isWord_0 rfl rfl ?_
  refine gf_10_17 dX10_isWord_1 kw_1870 ?_
  refine ev_if_ne 31 dX10_isWord_4 (by decide) (fun c1 => ?_) (fun c1 => ?_)
  · replace hQ := hQ.2 c1
    refine ev_iconst (0) dX10_isWord_31 rfl ?_
    exact ev_ireturn .boolean dX10_isWord_32 rfl rfl hQ
  · replace hQ := hQ.1 c1
    refine ev_aload_n (ev_o 10 a) dX10_isWord_7 rfl rfl ?_
    refine gf_10_15 dX10_isWord_8 kw_1868 ?_
    refine ev_iconst (1) dX10_isWord_11 rfl ?_
    refine ev_icmp_ne 31 dX10_isWord_12 (by decide) (fun c2 => ?_) (fun c2 => ?_)
    · replace hQ := hQ.2 c2
      refine ev_iconst (0) dX10_isWord_31 rfl ?_
      exact ev_ireturn .boolean dX10_isWord_32 rfl rfl hQ
    · replace hQ := hQ.1 c2
      refine ev_aload_n (ev_o 10 a) dX10_isWord_15 rfl rfl ?_
      refine gf_10_13 dX10_isWord_16 kw_1866 ?_
      refine ev_aload_n (ev_o 10 a) dX10_isWord_19 rfl rfl ?_
      refine gf_10_14 dX10_isWord_20 kw_1867 ?_
      refine ev_isub dX10_isWord_23 ?_
      refine ev_aload_n (ev_x 1 k0) dX10_isWord_24 rfl rfl ?_
      refine ev_fK mv_J0_length_8abf5 2 [] [ev_i ((S.1 a 13) - (S.1 a 14))] dX10_isWord_25 kw_1759 rfl (by decide) (Nat.le_of_ble_eq_true rfl) (sp_J0_length_8abf5 k0) ?_ rfl
      refine ev_icmp_eq 33 dX10_isWord_28 (by decide) (fun c3 => ?_) (fun c3 => ?_)
      · replace hQ := hQ.1 c3
        refine ev_iconst (0) dX10_isWord_33 rfl ?_
        refine ev_istore_n dX10_isWord_34 (Nat.le_of_ble_eq_true rfl) (ev_hw rfl) ?_
        show ev_E g m_X10_isWord 5 0 35 [some (ev_o 10 a), some (ev_x 1 k0), some (ev_i 0)] [] S Q
        exact hQ
      · replace hQ := hQ.2 c3
        refine ev_iconst (0) dX10_isWord_31 rfl ?_
        exact ev_ireturn .boolean dX10_isWord_32 rfl rfl hQ
set_option maxHeartbeats 4000000 in
set_option maxRecDepth 100000 in
theorem sg_X10_isWord_35 {g : ev_G} {S : ev_S} {Q : ev_O → ev_S → Prop} (a : Nat) (k0 : Nat) (u2 : Int32) (hQ : ((j_ishr (Int32.ofNat (ev_le.getD k0 0)) 0) ≤ u2 → (
    Q (.inl (some (ev_i 1))) S)) ∧
  (¬ ((j_ishr (Int32.ofNat (ev_le.getD k0 0)) 0) ≤ u2) → (
    (vp_in ((S.1 a 14) + u2) 800) ∧ (
      ((u2 < 0) → False) ∧ (
        (¬ (u2 < 0) → ¬ (u2 < (Int32.ofNat (ev_le.getD k0 0))) → False) ∧ (
          (vp_in u2 (ev_le.getD k0 0)) ∧ (
            (narrow .char (.int (j_i2c ((j_byte k0 u2) &&& 255))) = .int (j_i2c ((j_byte k0 u2) &&& 255))) ∧ (
              ((S.1 (a + 7) ((S.1 a 14) + u2).toNatClampNeg) = (j_i2c ((j_byte k0 u2) &&& 255)) → (
                ev_E g m_X10_isWord 5 0 35 [some (ev_o 10 a), some (ev_x 1 k0), some (ev_i (u2 + 1))] [] S Q)) ∧
              (¬ ((S.1 (a + 7) ((S.1 a 14) + u2).toNatClampNeg) = (j_i2c ((j_byte k0 u2) &&& 255))) → (
                Q (.inl (some (ev_i 0))) S)))))))))) : ev_E g m_X10_isWord 5 0 35 [some (ev_o 10 a), some (ev_x 1 k0), some (ev_i u2)] [] S Q := by
  refine ev_iload_n (u2) dX10_isWord_35 rfl ?_
  refine ev_aload_n (ev_x 1 k0) dX10_isWord_36 rfl rfl ?_
  refine ev_fK mv_J0_length_8abf5 2 [] [ev_i u2] dX10_isWord_37 kw_1759 rfl (by decide) (Nat.le_of_ble_eq_true rfl) (sp_J0_length_8abf5 k0) ?_ rfl
  refine ev_icmp_ge 70 dX10_isWord_40 (by decide) (fun c1 => ?_) (fun c1 => ?_)
  · replace hQ := hQ.1 c1
    refine ev_iconst (1) dX10_isWord_70 rfl ?_
    exact ev_ireturn .boolean dX10_isWord_71 rfl rfl hQ
  · replace hQ := hQ.2 c1
    refine ev_aload_n (ev_o 10 a) dX10_isWord_43 rfl rfl ?_
    refine gf_10_9 dX10_isWord_44 kw_1862 ?_
    refine ev_aload_n (ev_o 10 a) dX10_isWord_47 rfl rfl ?_
    refine gf_10_14 dX10_isWord_48 kw_1867 ?_
    refine ev_iload_n (u2) dX10_isWord_51 rfl ?_
    refine ev_iadd dX10_isWord_52 ?_
    obtain ⟨h1, hQ⟩ := hQ
    refine ev_iaload dX10_isWord_53 h1 ?_
    refine ev_aload_n (ev_x 1 k0) dX10_isWord_54 rfl rfl ?_
    refine ev_iload_n (u2) dX10_isWord_55 rfl ?_
    obtain ⟨h2, hQ⟩ := hQ
    obtain ⟨h3, hQ⟩ := hQ
    obtain ⟨h4, hQ⟩ := hQ
    obtain ⟨h5, hQ⟩ := hQ
    refine ev_fK mv_J0_charAt_5068e 4 [ev_i u2] [ev_i (S.1 (a + 7) ((S.1 a 14) + u2).toNatClampNeg)] dX10_isWord_56 kw_1760 rfl (by decide) (Nat.le_of_ble_eq_true rfl) (sp_J0_charAt_5068e k0 u2 h2 h3 h4 h5) ?_ rfl
    refine ev_icmp_eq 64 dX10_isWord_59 (by decide) (fun c2 => ?_) (fun c2 => ?_)
    · replace hQ := hQ.1 c2
      refine ev_iinc u2 (1) dX10_isWord_64 rfl (by decide) (ev_hw rfl) ?_
      show ev_E g m_X10_isWord 5 0 67 [some (ev_o 10 a), some (ev_x 1 k0), some (ev_i (u2 + 1))] [] S Q
      refine ev_goto 35 dX10_isWord_67 (by decide) ?_
      exact hQ
    · replace hQ := hQ.2 c2
      refine ev_iconst (0) dX10_isWord_62 rfl ?_
      exact ev_ireturn .boolean dX10_isWord_63 rfl rfl hQ
set_option maxHeartbeats 4000000 in
set_option maxRecDepth 100000 in
theorem sg_X10_must_0 {g : ev_G} {S : ev_S} {Q : ev_O → ev_S → Prop} (a : Nat) (x0 : Int32) (x1 : Int32) (hQ : ((S.1 a 17) = 0 → (
    (x0 = 0 → (
      ∀ S1 : ev_S, S1 = (ev_up S a 17 x1) → (
        ∀ S2 : ev_S, S2 = (ev_up S1 a 18 (S.1 a 14)) → (
          (x1 = 0 → (
            Q (.inl (some (ev_i 1))) S2)) ∧
          (¬ (x1 = 0) → (
            Q (.inl (some (ev_i 0))) S2)))))) ∧
    (¬ (x0 = 0) → (
      Q (.inl (some (ev_i 1))) S)))) ∧
  (¬ ((S.1 a 17) = 0) → (
    Q (.inl (some (ev_i 0))) S))) : ev_Cv g m_X10_must 1 0 [ev_o 10 a, ev_i x0, ev_i x1] S Q := by
  refine ev_enter (by decide) rfl rfl (Nat.le_of_ble_eq_true rfl) ?_
  show ev_E g m_X10_must 1 0 0 [some (ev_o 10 a), some (ev_i x0), some (ev_i x1)] [] S Q
  refine ev_aload_n (ev_o 10 a) dX10_must_0 rfl rfl ?_
  refine gf_10_17 dX10_must_1 kw_1870 ?_
  refine ev_if_ne 24 dX10_must_4 (by decide) (fun c1 => ?_) (fun c1 => ?_)
  · replace hQ := hQ.2 c1
    refine ev_aload_n (ev_o 10 a) dX10_must_24 rfl rfl ?_
    refine gf_10_17 dX10_must_25 kw_1870 ?_
    refine ev_if_ne 35 dX10_must_28 (by decide) (fun _ => ?_) (fun h9 => absurd h9 c1)
    refine ev_iconst (0) dX10_must_35 rfl ?_
    exact ev_ireturn .boolean dX10_must_36 rfl rfl hQ
  · replace hQ := hQ.1 c1
    refine ev_iload_n (x0) dX10_must_7 rfl ?_
    refine ev_if_ne 24 dX10_must_8 (by decide) (fun c2 => ?_) (fun c2 => ?_)
    · replace hQ := hQ.2 c2
      refine ev_aload_n (ev_o 10 a) dX10_must_24 rfl rfl ?_
      refine gf_10_17 dX10_must_25 kw_1870 ?_
      refine ev_if_ne 35 dX10_must_28 (by decide) (fun h9 => absurd c1 h9) (fun _ => ?_)
      refine ev_iconst (1) dX10_must_31 rfl ?_
      refine ev_goto 36 dX10_must_32 (by decide) ?_
      exact ev_ireturn .boolean dX10_must_36 rfl rfl hQ
    · replace hQ := hQ.1 c2
      refine ev_aload_n (ev_o 10 a) dX10_must_11 rfl rfl ?_
      refine ev_iload_n (x1) dX10_must_12 rfl ?_
      refine pf_10_17 dX10_must_13 kw_1870 ?_
      refine ev_sub hQ (fun S1 hS1 hQ => ?_)
      refine ev_E.goal (pc' := 16) (L' := [some (ev_o 10 a), some (ev_i x0), some (ev_i x1)]) (K' := []) (S' := S1) ?_ rfl rfl rfl hS1
      refine ev_aload_n (ev_o 10 a) dX10_must_16 rfl rfl ?_
      refine ev_aload_n (ev_o 10 a) dX10_must_17 rfl rfl ?_
      refine gf_10_14 dX10_must_18 kw_1867 ?_
      refine ev_ke (j_rk hS1 (Or.inr (by decide))) ?_
      refine pf_10_18 dX10_must_21 kw_1871 ?_
      refine ev_sub hQ (fun S2 hS2 hQ => ?_)
      refine ev_E.goal (pc' := 24) (L' := [some (ev_o 10 a), some (ev_i x0), some (ev_i x1)]) (K' := []) (S' := S2) ?_ rfl rfl rfl hS2
      refine ev_aload_n (ev_o 10 a) dX10_must_24 rfl rfl ?_
      refine gf_10_17 dX10_must_25 kw_1870 ?_
      refine ev_ke ((j_rk hS2 (Or.inr (by decide))).trans (j_rs hS1)) ?_
      refine ev_if_ne 35 dX10_must_28 (by decide) (fun c3 => ?_) (fun c3 => ?_)
      · replace hQ := hQ.2 c3
        refine ev_iconst (0) dX10_must_35 rfl ?_
        exact ev_ireturn .boolean dX10_must_36 rfl rfl hQ
      · replace hQ := hQ.1 c3
        refine ev_iconst (1) dX10_must_31 rfl ?_
        refine ev_goto 36 dX10_must_32 (by decide) ?_
        exact ev_ireturn .boolean dX10_must_36 rfl rfl hQ
set_option maxHeartbeats 4000000 in
set_option maxRecDepth 100000 in
theorem sg_X10_passes_0 {g : ev_G} {S : ev_S} {Q : ev_O → ev_S → Prop} (a : Nat) (hQ : ((S.1 a 17) = 0 → (
    ev_Cv g m_X10_reads 2 0 [ev_o 10 a] S (fun o S1 => o = .inl none ∧ (
      Q (.inl none) S1)))) ∧
  (¬ ((S.1 a 17) = 0) → (
    Q (.inl none) S))) : ev_Cv g m_X10_passes 3 0 [ev_o 10 a] S Q := by
  refine ev_enter (by decide) rfl rfl (Nat.le_of_ble_eq_true rfl) ?_
  show ev_E g m_X10_passes 3 0 0 [some (ev_o 10 a)] [] S Q
  refine ev_aload_n (ev_o 10 a) dX10_passes_0 rfl rfl ?_
  refine gf_10_17 dX10_passes_1 kw_1870 ?_
  refine ev_if_ne 11 dX10_passes_4 (by decide) (fun c1 => ?_) (fun c1 => ?_)
  · replace hQ := hQ.2 c1
    exact ev_return dX10_passes_11 rfl hQ
  · replace hQ := hQ.1 c1
    refine ev_aload_n (ev_o 10 a) dX10_passes_7 rfl rfl ?_
    refine ev_cV mv_X10_reads 2 0 10 [] [] dX10_passes_8 kw_1773 rfl (by decide) rfl (by decide) (by decide) (Nat.le_of_ble_eq_true rfl) hQ ?_ rfl
    rintro o S1 ⟨rfl, hQ⟩
    show ev_E g m_X10_passes 3 0 11 [some (ev_o 10 a)] [] S1 Q
    exact ev_return dX10_passes_11 rfl hQ
set_option maxHeartbeats 4000000 in
set_option maxRecDepth 100000 in
theorem sg_X10_looksAt_0 {g : ev_G} {S : ev_S} {Q : ev_O → ev_S → Prop} (a : Nat) (x0 : Int32) (x1 : Int32) (hQ : ((S.1 a 15) = 2 → (
    ev_Cv g m_X10_must 1 0 [ev_o 10 a, ev_i 1, ev_i 1] S (fun o S4 => ∃ v4_ : Bool, o = .inl (some (ev_i (if v4_ = true then 1 else 0))) ∧ (
      (v4_ = true → (
        ((t_X10_in (S4.1 a 16) x0 x1) = true → (
          ev_Cv g m_X10_must 1 0 [ev_o 10 a, ev_i 1, ev_i 2] S4 (fun o S5 => ∃ v5_ : Bool, o = .inl (some (ev_i (if v5_ = true then 1 else 0))) ∧ (
            ((S5.1 a 17) = 0 → (
              Q (.inl (some (ev_i 1))) S5)) ∧
            (¬ ((S5.1 a 17) = 0) → (
              Q (.inl (some (ev_i 0))) S5)))))) ∧
        (¬ ((t_X10_in (S4.1 a 16) x0 x1) = true) → (
          ev_Cv g m_X10_must 1 0 [ev_o 10 a, ev_i 0, ev_i 2] S4 (fun o S6 => ∃ v6_ : Bool, o = .inl (some (ev_i (if v6_ = true then 1 else 0))) ∧ (
            ((S6.1 a 17) = 0 → (
              Q (.inl (some (ev_i 1))) S6)) ∧
            (¬ ((S6.1 a 17) = 0) → (
              Q (.inl (some (ev_i 0))) S6)))))))) ∧
      (¬ (v4_ = true) → (
        ((S4.1 a 17) = 0 → (
          Q (.inl (some (ev_i 1))) S4)) ∧
        (¬ ((S4.1 a 17) = 0) → (
          Q (.inl (some (ev_i 0))) S4)))))))) ∧
  (¬ ((S.1 a 15) = 2) → (
    ev_Cv g m_X10_must 1 0 [ev_o 10 a, ev_i 0, ev_i 1] S (fun o S1 => ∃ v1_ : Bool, o = .inl (some (ev_i (if v1_ = true then 1 else 0))) ∧ (
      (v1_ = true → (
        ((t_X10_in (S1.1 a 16) x0 x1) = true → (
          ev_Cv g m_X10_must 1 0 [ev_o 10 a, ev_i 1, ev_i 2] S1 (fun o S2 => ∃ v2_ : Bool, o = .inl (some (ev_i (if v2_ = true then 1 else 0))) ∧ (
            ((S2.1 a 17) = 0 → (
              Q (.inl (some (ev_i 1))) S2)) ∧
            (¬ ((S2.1 a 17) = 0) → (
              Q (.inl (some (ev_i 0))) S2)))))) ∧
        (¬ ((t_X10_in (S1.1 a 16) x0 x1) = true) → (
          ev_Cv g m_X10_must 1 0 [ev_o 10 a, ev_i 0, ev_i 2] S1 (fun o S3 => ∃ v3_ : Bool, o = .inl (some (ev_i (if v3_ = true then 1 else 0))) ∧ (
            ((S3.1 a 17) = 0 → (
              Q (.inl (some (ev_i 1))) S3)) ∧
            (¬ ((S3.1 a 17) = 0) → (
              Q (.inl (some (ev_i 0))) S3)))))))) ∧
      (¬ (v1_ = true) → (
        ((S1.1 a 17) = 0 → (
          Q (.inl (some (ev_i 1))) S1)) ∧
        (¬ ((S1.1 a 17) = 0) → (
          Q (.inl (some (ev_i 0))) S1))))))))) : ev_Cv g m_X10_looksAt 2 0 [ev_o 10 a, ev_i x0, ev_i x1] S Q := by
  refine ev_enter (by decide) rfl rfl (Nat.le_of_ble_eq_true rfl) ?_
  show ev_E g m_X10_looksAt 2 0 0 [some (ev_o 10 a), some (ev_i x0), some (ev_i x1)] [] S Q
  refine ev_aload_n (ev_o 10 a) dX10_looksAt_0 rfl rfl ?_
  refine ev_aload_n (ev_o 10 a) dX10_looksAt_1 rfl rfl ?_
  refine gf_10_15 dX10_looksAt_2 kw_1868 ?_
  refine ev_iconst (2) dX10_looksAt_5 rfl ?_
  refine ev_icmp_ne 13 dX10_looksAt_6 (by decide) (fun c1 => ?_) (fun c1 => ?_)
  · replace hQ := hQ.2 c1
    refine ev_iconst (0) dX10_looksAt_13 rfl ?_
    refine ev_iconst (1) dX10_looksAt_14 rfl ?_
    refine ev_cV mv_X10_must 1 0 10 [ev_i 0, ev_i 1] [] dX10_looksAt_15 kw_1794 rfl (by decide) rfl (by decide) (by decide) (Nat.le_of_ble_eq_true rfl) hQ ?_ rfl
    rintro o S1 ⟨v1_, rfl, hQ⟩
    show ev_E g m_X10_looksAt 2 0 18 [some (ev_o 10 a), some (ev_i x0), some (ev_i x1)] [ev_i (if v1_ = true then 1 else 0)] S1 Q
    by_cases c2 : v1_ = true
    · rw [if_pos c2]
      replace hQ := hQ.1 c2
      refine ev_if_eq 36 dX10_looksAt_18 (by decide) (fun h9 => absurd h9 (by decide : ¬ ((1 : Int32) = 0))) (fun _ => ?_)
      refine ev_aload_n (ev_o 10 a) dX10_looksAt_21 rfl rfl ?_
      refine ev_aload_n (ev_o 10 a) dX10_looksAt_22 rfl rfl ?_
      refine gf_10_16 dX10_looksAt_23 kw_1869 ?_
      refine ev_iload_n (x0) dX10_looksAt_26 rfl ?_
      refine ev_iload_n (x1) dX10_looksAt_27 rfl ?_
      refine ev_fS ms_X10_in 1 [ev_i (S1.1 a 16), ev_i x0, ev_i x1] [ev_o 10 a] dX10_looksAt_28 kw_1781 rfl (by decide) (Nat.le_of_ble_eq_true rfl) (sp_X10_in (S1.1 a 16) x0 x1) ?_ rfl
      by_cases c3 : (t_X10_in (S1.1 a 16) x0 x1) = true
      · rw [if_pos c3]
        replace hQ := hQ.1 c3
        refine ev_iconst (2) dX10_looksAt_31 rfl ?_
        refine ev_cV mv_X10_must 1 0 10 [ev_i 1, ev_i 2] [] dX10_looksAt_32 kw_1794 rfl (by decide) rfl (by decide) (by decide) (Nat.le_of_ble_eq_true rfl) hQ ?_ rfl
        rintro o S2 ⟨v2_, rfl, hQ⟩
        show ev_E g m_X10_looksAt 2 0 35 [some (ev_o 10 a), some (ev_i x0), some (ev_i x1)] [ev_i (if v2_ = true then 1 else 0)] S2 Q
        refine ev_pop dX10_looksAt_35 rfl ?_
        refine ev_aload_n (ev_o 10 a) dX10_looksAt_36 rfl rfl ?_
        refine gf_10_17 dX10_looksAt_37 kw_1870 ?_
        refine ev_if_ne 47 dX10_looksAt_40 (by decide) (fun c4 => ?_) (fun c4 => ?_)
        · replace hQ := hQ.2 c4
          refine ev_iconst (0) dX10_looksAt_47 rfl ?_
          exact ev_ireturn .boolean dX10_looksAt_48 rfl rfl hQ
        · replace hQ := hQ.1 c4
          refine ev_iconst (1) dX10_looksAt_43 rfl ?_
          refine ev_goto 48 dX10_looksAt_44 (by decide) ?_
          exact ev_ireturn .boolean dX10_looksAt_48 rfl rfl hQ
      · rw [if_neg c3]
        replace hQ := hQ.2 c3
        refine ev_iconst (2) dX10_looksAt_31 rfl ?_
        refine ev_cV mv_X10_must 1 0 10 [ev_i 0, ev_i 2] [] dX10_looksAt_32 kw_1794 rfl (by decide) rfl (by decide) (by decide) (Nat.le_of_ble_eq_true rfl) hQ ?_ rfl
        rintro o S3 ⟨v3_, rfl, hQ⟩
        show ev_E g m_X10_looksAt 2 0 35 [some (ev_o 10 a), some (ev_i x0), some (ev_i x1)] [ev_i (if v3_ = true then 1 else 0)] S3 Q
        refine ev_pop dX10_looksAt_35 rfl ?_
        refine ev_aload_n (ev_o 10 a) dX10_looksAt_36 rfl rfl ?_
        refine gf_10_17 dX10_looksAt_37 kw_1870 ?_
        refine ev_if_ne 47 dX10_looksAt_40 (by decide) (fun c5 => ?_) (fun c5 => ?_)
        · replace hQ := hQ.2 c5
          refine ev_iconst (0) dX10_looksAt_47 rfl ?_
          exact ev_ireturn .boolean dX10_looksAt_48 rfl rfl hQ
        · replace hQ := hQ.1 c5
          refine ev_iconst (1) dX10_looksAt_43 rfl ?_
          refine ev_goto 48 dX10_looksAt_44 (by decide) ?_
          exact ev_ireturn .boolean dX10_looksAt_48 rfl rfl hQ
    · rw [if_neg c2]
      replace hQ := hQ.2 c2
      refine ev_if_eq 36 dX10_looksAt_18 (by decide) (fun _ => ?_) (fun h9 => absurd (by decide : ((0 : Int32) = 0)) h9)
      refine ev_aload_n (ev_o 10 a) dX10_looksAt_36 rfl rfl ?_
      refine gf_10_17 dX10_looksAt_37 kw_1870 ?_
      refine ev_if_ne 47 dX10_looksAt_40 (by decide) (fun c6 => ?_) (fun c6 => ?_)
      · replace hQ := hQ.2 c6
        refine ev_iconst (0) dX10_looksAt_47 rfl ?_
        exact ev_ireturn .boolean dX10_looksAt_48 rfl rfl hQ
      · replace hQ := hQ.1 c6
        refine ev_iconst (1) dX10_looksAt_43 rfl ?_
        refine ev_goto 48 dX10_looksAt_44 (by decide) ?_
        exact ev_ireturn .boolean dX10_looksAt_48 rfl rfl hQ
  · replace hQ := hQ.1 c1
    refine ev_iconst (1) dX10_looksAt_9 rfl ?_
    refine ev_goto 14 dX10_looksAt_10 (by decide) ?_
    refine ev_iconst (1) dX10_looksAt_14 rfl ?_
    refine ev_cV mv_X10_must 1 0 10 [ev_i 1, ev_i 1] [] dX10_looksAt_15 kw_1794 rfl (by decide) rfl (by decide) (by decide) (Nat.le_of_ble_eq_true rfl) hQ ?_ rfl
    rintro o S4 ⟨v4_, rfl, hQ⟩
    show ev_E g m_X10_looksAt 2 0 18 [some (ev_o 10 a), some (ev_i x0), some (ev_i x1)] [ev_i (if v4_ = true then 1 else 0)] S4 Q
    by_cases c7 : v4_ = true
    · rw [if_pos c7]
      replace hQ := hQ.1 c7
      refine ev_if_eq 36 dX10_looksAt_18 (by decide) (fun h9 => absurd h9 (by decide : ¬ ((1 : Int32) = 0))) (fun _ => ?_)
      refine ev_aload_n (ev_o 10 a) dX10_looksAt_21 rfl rfl ?_
      refine ev_aload_n (ev_o 10 a) dX10_looksAt_22 rfl rfl ?_
      refine gf_10_16 dX10_looksAt_23 kw_1869 ?_
      refine ev_iload_n (x0) dX10_looksAt_26 rfl ?_
      refine ev_iload_n (x1) dX10_looksAt_27 rfl ?_
      refine ev_fS ms_X10_in 1 [ev_i (S4.1 a 16), ev_i x0, ev_i x1] [ev_o 10 a] dX10_looksAt_28 kw_1781 rfl (by decide) (Nat.le_of_ble_eq_true rfl) (sp_X10_in (S4.1 a 16) x0 x1) ?_ rfl
      by_cases c8 : (t_X10_in (S4.1 a 16) x0 x1) = true
      · rw [if_pos c8]
        replace hQ := hQ.1 c8
        refine ev_iconst (2) dX10_looksAt_31 rfl ?_
        refine ev_cV mv_X10_must 1 0 10 [ev_i 1, ev_i 2] [] dX10_looksAt_32 kw_1794 rfl (by decide) rfl (by decide) (by decide) (Nat.le_of_ble_eq_true rfl) hQ ?_ rfl
        rintro o S5 ⟨v5_, rfl, hQ⟩
        show ev_E g m_X10_looksAt 2 0 35 [some (ev_o 10 a), some (ev_i x0), some (ev_i x1)] [ev_i (if v5_ = true then 1 else 0)] S5 Q
        refine ev_pop dX10_looksAt_35 rfl ?_
        refine ev_aload_n (ev_o 10 a) dX10_looksAt_36 rfl rfl ?_
        refine gf_10_17 dX10_looksAt_37 kw_1870 ?_
        refine ev_if_ne 47 dX10_looksAt_40 (by decide) (fun c9 => ?_) (fun c9 => ?_)
        · replace hQ := hQ.2 c9
          refine ev_iconst (0) dX10_looksAt_47 rfl ?_
          exact ev_ireturn .boolean dX10_looksAt_48 rfl rfl hQ
        · replace hQ := hQ.1 c9
          refine ev_iconst (1) dX10_looksAt_43 rfl ?_
          refine ev_goto 48 dX10_looksAt_44 (by decide) ?_
          exact ev_ireturn .boolean dX10_looksAt_48 rfl rfl hQ
      · rw [if_neg c8]
        replace hQ := hQ.2 c8
        refine ev_iconst (2) dX10_looksAt_31 rfl ?_
        refine ev_cV mv_X10_must 1 0 10 [ev_i 0, ev_i 2] [] dX10_looksAt_32 kw_1794 rfl (by decide) rfl (by decide) (by decide) (Nat.le_of_ble_eq_true rfl) hQ ?_ rfl
        rintro o S6 ⟨v6_, rfl, hQ⟩
        show ev_E g m_X10_looksAt 2 0 35 [some (ev_o 10 a), some (ev_i x0), some (ev_i x1)] [ev_i (if v6_ = true then 1 else 0)] S6 Q
        refine ev_pop dX10_looksAt_35 rfl ?_
        refine ev_aload_n (ev_o 10 a) dX10_looksAt_36 rfl rfl ?_
        refine gf_10_17 dX10_looksAt_37 kw_1870 ?_
        refine ev_if_ne 47 dX10_looksAt_40 (by decide) (fun c10 => ?_) (fun c10 => ?_)
        · replace hQ := hQ.2 c10
          refine ev_iconst (0) dX10_looksAt_47 rfl ?_
          exact ev_ireturn .boolean dX10_looksAt_48 rfl rfl hQ
        · replace hQ := hQ.1 c10
          refine ev_iconst (1) dX10_looksAt_43 rfl ?_
          refine ev_goto 48 dX10_looksAt_44 (by decide) ?_
          exact ev_ireturn .boolean dX10_looksAt_48 rfl rfl hQ
    · rw [if_neg c7]
      replace hQ := hQ.2 c7
      refine ev_if_eq 36 dX10_looksAt_18 (by decide) (fun _ => ?_) (fun h9 => absurd (by decide : ((0 : Int32) = 0)) h9)
      refine ev_aload_n (ev_o 10 a) dX10_looksAt_36 rfl rfl ?_
      refine gf_10_17 dX10_looksAt_37 kw_1870 ?_
      refine ev_if_ne 47 dX10_looksAt_40 (by decide) (fun c11 => ?_) (fun c11 => ?_)
      · replace hQ := hQ.2 c11
        refine ev_iconst (0) dX10_looksAt_47 rfl ?_
        exact ev_ireturn .boolean dX10_looksAt_48 rfl rfl hQ
      · replace hQ := hQ.1 c11
        refine ev_iconst (1) dX10_looksAt_43 rfl ?_
        refine ev_goto 48 dX10_looksAt_44 (by decide) ?_
        exact ev_ireturn .boolean dX10_looksAt_48 rfl rfl hQ
set_option maxHeartbeats 4000000 in
set_option maxRecDepth 100000 in
theorem sg_X10_number_0 {g : ev_G} {S : ev_S} {Q : ev_O → ev_S → Prop} (a : Nat) (x0 : Int32) (x1 : Int32) (hQ : ev_Cv g m_X10_looksAt 2 0 [ev_o 10 a, ev_i x0, ev_i x1] S (fun o S1 => ∃ v1_ : Bool, o = .inl (some (ev_i (if v1_ = true then 1 else 0))) ∧ (
    (v1_ = true → (
      ev_Cv g m_X10_passes 3 0 [ev_o 10 a] S1 (fun o S2 => o = .inl none ∧ (
        Q (.inl (some (ev_i (S1.1 a 16)))) S2)))) ∧
    (¬ (v1_ = true) → (
      ev_Cv g m_X10_passes 3 0 [ev_o 10 a] S1 (fun o S3 => o = .inl none ∧ (
        Q (.inl (some (ev_i (S1.1 a 16)))) S3))))))) : ev_Cv g m_X10_number 4 0 [ev_o 10 a, ev_i x0, ev_i x1] S Q := by
  refine ev_enter (by decide) rfl rfl (Nat.le_of_ble_eq_true rfl) ?_
  show ev_E g m_X10_number 4 0 0 [some (ev_o 10 a), some (ev_i x0), some (ev_i x1), none, none] [] S Q
  refine ev_aload_n (ev_o 10 a) dX10_number_0 rfl rfl ?_
  refine ev_iload_n (x0) dX10_number_1 rfl ?_
  refine ev_iload_n (x1) dX10_number_2 rfl ?_
  refine ev_cV mv_X10_looksAt 2 0 10 [ev_i x0, ev_i x1] [] dX10_number_3 kw_1806 rfl (by decide) rfl (by decide) (by decide) (Nat.le_of_ble_eq_true rfl) hQ ?_ rfl
  rintro o S1 ⟨v1_, rfl, hQ⟩
  show ev_E g m_X10_number 4 0 6 [some (ev_o 10 a), some (ev_i x0), some (ev_i x1), none, none] [ev_i (if v1_ = true then 1 else 0)] S1 Q
  by_cases c1 : v1_ = true
  · rw [if_pos c1]
    replace hQ := hQ.1 c1
    refine ev_istore_n dX10_number_6 (Nat.le_of_ble_eq_true rfl) (ev_hw rfl) ?_
    show ev_E g m_X10_number 4 0 7 [some (ev_o 10 a), some (ev_i x0), some (ev_i x1), some (ev_i 1), none] [] S1 Q
    refine ev_aload_n (ev_o 10 a) dX10_number_7 rfl rfl ?_
    refine gf_10_16 dX10_number_8 kw_1869 ?_
    refine ev_istore dX10_number_11 (Nat.le_of_ble_eq_true rfl) (ev_hw rfl) ?_
    show ev_E g m_X10_number 4 0 13 [some (ev_o 10 a), some (ev_i x0), some (ev_i x1), some (ev_i 1), some (ev_i (S1.1 a 16))] [] S1 Q
    refine ev_aload_n (ev_o 10 a) dX10_number_13 rfl rfl ?_
    refine ev_cV mv_X10_passes 3 0 10 [] [] dX10_number_14 kw_1798 rfl (by decide) rfl (by decide) (by decide) (Nat.le_of_ble_eq_true rfl) hQ ?_ rfl
    rintro o S2 ⟨rfl, hQ⟩
    show ev_E g m_X10_number 4 0 17 [some (ev_o 10 a), some (ev_i x0), some (ev_i x1), some (ev_i 1), some (ev_i (S1.1 a 16))] [] S2 Q
    refine ev_iload ((S1.1 a 16)) dX10_number_17 rfl ?_
    exact ev_ireturn .int dX10_number_19 rfl rfl hQ
  · rw [if_neg c1]
    replace hQ := hQ.2 c1
    refine ev_istore_n dX10_number_6 (Nat.le_of_ble_eq_true rfl) (ev_hw rfl) ?_
    show ev_E g m_X10_number 4 0 7 [some (ev_o 10 a), some (ev_i x0), some (ev_i x1), some (ev_i 0), none] [] S1 Q
    refine ev_aload_n (ev_o 10 a) dX10_number_7 rfl rfl ?_
    refine gf_10_16 dX10_number_8 kw_1869 ?_
    refine ev_istore dX10_number_11 (Nat.le_of_ble_eq_true rfl) (ev_hw rfl) ?_
    show ev_E g m_X10_number 4 0 13 [some (ev_o 10 a), some (ev_i x0), some (ev_i x1), some (ev_i 0), some (ev_i (S1.1 a 16))] [] S1 Q
    refine ev_aload_n (ev_o 10 a) dX10_number_13 rfl rfl ?_
    refine ev_cV mv_X10_passes 3 0 10 [] [] dX10_number_14 kw_1798 rfl (by decide) rfl (by decide) (by decide) (Nat.le_of_ble_eq_true rfl) hQ ?_ rfl
    rintro o S3 ⟨rfl, hQ⟩
    show ev_E g m_X10_number 4 0 17 [some (ev_o 10 a), some (ev_i x0), some (ev_i x1), some (ev_i 0), some (ev_i (S1.1 a 16))] [] S3 Q
    refine ev_iload ((S1.1 a 16)) dX10_number_17 rfl ?_
    exact ev_ireturn .int dX10_number_19 rfl rfl hQ
set_option maxHeartbeats 4000000 in
set_option maxRecDepth 100000 in
theorem sg_X10_isSign_0 {g : ev_G} {S : ev_S} {Q : ev_O → ev_S → Prop} (a : Nat) (x0 : Int32) (hQ : ((S.1 a 17) = 0 → (
    ((S.1 a 15) = 3 → (
      (¬ ((S.1 a 10) ≤ (S.1 a 14)) → vp_in (S.1 a 14) 800) ∧ (
        ((f_X10_seen S a (S.1 a 14)) = x0 → (
          Q (.inl (some (ev_i 1))) S)) ∧
        (¬ ((f_X10_seen S a (S.1 a 14)) = x0) → (
          Q (.inl (some (ev_i 0))) S))))) ∧
    (¬ ((S.1 a 15) = 3) → (
      Q (.inl (some (ev_i 0))) S)))) ∧
  (¬ ((S.1 a 17) = 0) → (
    Q (.inl (some (ev_i 0))) S))) : ev_Cv g m_X10_isSign 2 0 [ev_o 10 a, ev_i x0] S Q := by
  refine ev_enter (by decide) rfl rfl (Nat.le_of_ble_eq_true rfl) ?_
  show ev_E g m_X10_isSign 2 0 0 [some (ev_o 10 a), some (ev_i x0)] [] S Q
  refine ev_aload_n (ev_o 10 a) dX10_isSign_0 rfl rfl ?_
  refine gf_10_17 dX10_isSign_1 kw_1870 ?_
  refine ev_if_ne 31 dX10_isSign_4 (by decide) (fun c1 => ?_) (fun c1 => ?_)
  · replace hQ := hQ.2 c1
    refine ev_iconst (0) dX10_isSign_31 rfl ?_
    exact ev_ireturn .boolean dX10_isSign_32 rfl rfl hQ
  · replace hQ := hQ.1 c1
    refine ev_aload_n (ev_o 10 a) dX10_isSign_7 rfl rfl ?_
    refine gf_10_15 dX10_isSign_8 kw_1868 ?_
    refine ev_iconst (3) dX10_isSign_11 rfl ?_
    refine ev_icmp_ne 31 dX10_isSign_12 (by decide) (fun c2 => ?_) (fun c2 => ?_)
    · replace hQ := hQ.2 c2
      refine ev_iconst (0) dX10_isSign_31 rfl ?_
      exact ev_ireturn .boolean dX10_isSign_32 rfl rfl hQ
    · replace hQ := hQ.1 c2
      refine ev_aload_n (ev_o 10 a) dX10_isSign_15 rfl rfl ?_
      refine ev_aload_n (ev_o 10 a) dX10_isSign_16 rfl rfl ?_
      refine gf_10_14 dX10_isSign_17 kw_1867 ?_
      obtain ⟨h1, hQ⟩ := hQ
      refine ev_fV mv_X10_seen 1 10 [ev_i (S.1 a 14)] [] dX10_isSign_20 kw_1777 rfl (by decide) rfl (by decide) (Nat.le_of_ble_eq_true rfl) (sp_X10_seen a (S.1 a 14) h1) ?_ rfl
      refine ev_iload_n (x0) dX10_isSign_23 rfl ?_
      refine ev_icmp_ne 31 dX10_isSign_24 (by decide) (fun c3 => ?_) (fun c3 => ?_)
      · replace hQ := hQ.2 c3
        refine ev_iconst (0) dX10_isSign_31 rfl ?_
        exact ev_ireturn .boolean dX10_isSign_32 rfl rfl hQ
      · replace hQ := hQ.1 c3
        refine ev_iconst (1) dX10_isSign_27 rfl ?_
        refine ev_goto 32 dX10_isSign_28 (by decide) ?_
        exact ev_ireturn .boolean dX10_isSign_32 rfl rfl hQ
def t_X10_isSign (S : ev_S) (a : Nat) (x0 : Int32) : Bool := if (S.1 a 17) = 0 then (if (S.1 a 15) = 3 then (if (f_X10_seen S a (S.1 a 14)) = x0 then (true) else (false)) else (false)) else (false)
set_option maxHeartbeats 4000000 in
set_option maxRecDepth 100000 in
theorem sp_X10_isSign {g : ev_G} {S : ev_S} (a : Nat) (x0 : Int32) (q0 : ((S.1 a 17) = 0) → ((S.1 a 15) = 3) → ¬ ((S.1 a 10) ≤ (S.1 a 14)) → vp_in (S.1 a 14) 800) : ev_Fn g m_X10_isSign 2 [ev_o 10 a, ev_i x0] S (some (ev_i (if (t_X10_isSign S a x0) = true then 1 else 0))) S := by
  intro Q hQ
  refine sg_X10_isSign_0 a x0 ?_
  unfold t_X10_isSign at hQ
  refine ⟨fun c1 => ?_, fun c1 => ?_⟩
  · rw [if_pos c1] at hQ
    refine ⟨fun c2 => ?_, fun c2 => ?_⟩
    · rw [if_pos c2] at hQ
      refine ⟨(q0 c1 c2), ?_⟩
      refine ⟨fun c3 => ?_, fun c3 => ?_⟩
      · rw [if_pos c3] at hQ
        exact hQ
      · rw [if_neg c3] at hQ
        exact hQ
    · rw [if_neg c2] at hQ
      exact hQ
  · rw [if_neg c1] at hQ
    exact hQ
set_option maxHeartbeats 4000000 in
set_option maxRecDepth 100000 in
theorem sg_X10_takesSign_0 {g : ev_G} {S : ev_S} {Q : ev_O → ev_S → Prop} (a : Nat) (x0 : Int32) (hQ : (((S.1 a 17) = 0) → ((S.1 a 15) = 3) → ¬ ((S.1 a 10) ≤ (S.1 a 14)) → vp_in (S.1 a 14) 800) ∧ (
    ((t_X10_isSign S a x0) = true → (
      ev_Cv g m_X10_must 1 0 [ev_o 10 a, ev_i 1, ev_i 1] S (fun o S1 => ∃ v1_ : Bool, o = .inl (some (ev_i (if v1_ = true then 1 else 0))) ∧ (
        ev_Cv g m_X10_passes 3 0 [ev_o 10 a] S1 (fun o S2 => o = .inl none ∧ (
          Q (.inl none) S2)))))) ∧
    (¬ ((t_X10_isSign S a x0) = true) → (
      ev_Cv g m_X10_must 1 0 [ev_o 10 a, ev_i 0, ev_i 1] S (fun o S3 => ∃ v3_ : Bool, o = .inl (some (ev_i (if v3_ = true then 1 else 0))) ∧ (
        ev_Cv g m_X10_passes 3 0 [ev_o 10 a] S3 (fun o S4 => o = .inl none ∧ (
          Q (.inl none) S4)))))))) : ev_Cv g m_X10_takesSign 4 0 [ev_o 10 a, ev_i x0] S Q := by
  refine ev_enter (by decide) rfl rfl (Nat.le_of_ble_eq_true rfl) ?_
  show ev_E g m_X10_takesSign 4 0 0 [some (ev_o 10 a), some (ev_i x0)] [] S Q
  refine ev_aload_n (ev_o 10 a) dX10_takesSign_0 rfl rfl ?_
  refine ev_aload_n (ev_o 10 a) dX10_takesSign_1 rfl rfl ?_
  refine ev_iload_n (x0) dX10_takesSign_2 rfl ?_
  obtain ⟨h1, hQ⟩ := hQ
  refine ev_fV mv_X10_isSign 2 10 [ev_i x0] [ev_o 10 a] dX10_takesSign_3 kw_1814 rfl (by decide) rfl (by decide) (Nat.le_of_ble_eq_true rfl) (sp_X10_isSign a x0 h1) ?_ rfl
  by_cases c1 : (t_X10_isSign S a x0) = true
  · rw [if_pos c1]
    replace hQ := hQ.1 c1
    refine ev_iconst (1) dX10_takesSign_6 rfl ?_
    refine ev_cV mv_X10_must 1 0 10 [ev_i 1, ev_i 1] [] dX10_takesSign_7 kw_1794 rfl (by decide) rfl (by decide) (by decide) (Nat.le_of_ble_eq_true rfl) hQ ?_ rfl
    rintro o S1 ⟨v1_, rfl, hQ⟩
    show ev_E g m_X10_takesSign 4 0 10 [some (ev_o 10 a), some (ev_i x0)] [ev_i (if v1_ = true then 1 else 0)] S1 Q
    refine ev_pop dX10_takesSign_10 rfl ?_
    refine ev_aload_n (ev_o 10 a) dX10_takesSign_11 rfl rfl ?_
    refine ev_cV mv_X10_passes 3 0 10 [] [] dX10_takesSign_12 kw_1798 rfl (by decide) rfl (by decide) (by decide) (Nat.le_of_ble_eq_true rfl) hQ ?_ rfl
    rintro o S2 ⟨rfl, hQ⟩
    show ev_E g m_X10_takesSign 4 0 15 [some (ev_o 10 a), some (ev_i x0)] [] S2 Q
    exact ev_return dX10_takesSign_15 rfl hQ
  · rw [if_neg c1]
    replace hQ := hQ.2 c1
    refine ev_iconst (1) dX10_takesSign_6 rfl ?_
    refine ev_cV mv_X10_must 1 0 10 [ev_i 0, ev_i 1] [] dX10_takesSign_7 kw_1794 rfl (by decide) rfl (by decide) (by decide) (Nat.le_of_ble_eq_true rfl) hQ ?_ rfl
    rintro o S3 ⟨v3_, rfl, hQ⟩
    show ev_E g m_X10_takesSign 4 0 10 [some (ev_o 10 a), some (ev_i x0)] [ev_i (if v3_ = true then 1 else 0)] S3 Q
    refine ev_pop dX10_takesSign_10 rfl ?_
    refine ev_aload_n (ev_o 10 a) dX10_takesSign_11 rfl rfl ?_
    refine ev_cV mv_X10_passes 3 0 10 [] [] dX10_takesSign_12 kw_1798 rfl (by decide) rfl (by decide) (by decide) (Nat.le_of_ble_eq_true rfl) hQ ?_ rfl
    rintro o S4 ⟨rfl, hQ⟩
    show ev_E g m_X10_takesSign 4 0 15 [some (ev_o 10 a), some (ev_i x0)] [] S4 Q
    exact ev_return dX10_takesSign_15 rfl hQ
set_option maxHeartbeats 4000000 in
set_option maxRecDepth 100000 in
theorem sg_X10_squares_0 {g : ev_G} {S : ev_S} {Q : ev_O → ev_S → Prop} (a : Nat) (hQ : Q (.inl (some (ev_i ((S.1 (a + 1) 0) * (S.1 (a + 1) 0))))) S) : ev_Cv g m_X10_squares 1 0 [ev_o 10 a] S Q := by
  refine ev_enter (by decide) rfl rfl (Nat.le_of_ble_eq_true rfl) ?_
  show ev_E g m_X10_squares 1 0 0 [some (ev_o 10 a)] [] S Q
  refine ev_aload_n (ev_o 10 a) dX10_squares_0 rfl rfl ?_
  refine gf_10_0 dX10_squares_1 kw_1853 ?_
  refine ev_iconst (0) dX10_squares_4 rfl ?_
  refine ev_iaload dX10_squares_5 (j_vin (by decide)) ?_
  refine ev_aload_n (ev_o 10 a) dX10_squares_6 rfl rfl ?_
  refine gf_10_0 dX10_squares_7 kw_1853 ?_
  refine ev_iconst (0) dX10_squares_10 rfl ?_
  refine ev_iaload dX10_squares_11 (j_vin (by decide)) ?_
  refine ev_imul dX10_squares_12 ?_
  exact ev_ireturn .int dX10_squares_13 rfl rfl hQ
set_option maxHeartbeats 4000000 in
set_option maxRecDepth 100000 in
theorem sp_X10_squares {g : ev_G} {S : ev_S} (a : Nat)  : ev_Fn g m_X10_squares 1 [ev_o 10 a] S (some (ev_i ((S.1 (a + 1) 0) * (S.1 (a + 1) 0)))) S := by
  intro Q hQ
  refine sg_X10_squares_0 a ?_
  exact hQ
set_option maxHeartbeats 4000000 in
set_option maxRecDepth 100000 in
theorem sg_X10_owner_0 {g : ev_G} {S : ev_S} {Q : ev_O → ev_S → Prop} (a : Nat) (x0 : Int32) (x1 : Int32) (hQ : (vp_in ((26 + (64 * x0)) + x1) 2091) ∧ (
    Q (.inl (some (ev_i (S.1 (a + 1) ((26 + (64 * x0)) + x1).toNatClampNeg)))) S)) : ev_Cv g m_X10_owner 1 0 [ev_o 10 a, ev_i x0, ev_i x1] S Q := by
  refine ev_enter (by decide) rfl rfl (Nat.le_of_ble_eq_true rfl) ?_
  show ev_E g m_X10_owner 1 0 0 [some (ev_o 10 a), some (ev_i x0), some (ev_i x1)] [] S Q
  refine ev_aload_n (ev_o 10 a) dX10_owner_0 rfl rfl ?_
  refine gf_10_0 dX10_owner_1 kw_1853 ?_
  refine ev_bipush (26) dX10_owner_4 (by decide) ?_
  refine ev_bipush (64) dX10_owner_6 (by decide) ?_
  refine ev_iload_n (x0) dX10_owner_8 rfl ?_
  refine ev_imul dX10_owner_9 ?_
  refine ev_iadd dX10_owner_10 ?_
  refine ev_iload_n (x1) dX10_owner_11 rfl ?_
  refine ev_iadd dX10_owner_12 ?_
  obtain ⟨h1, hQ⟩ := hQ
  refine ev_iaload dX10_owner_13 h1 ?_
  exact ev_ireturn .int dX10_owner_14 rfl rfl hQ
set_option maxHeartbeats 4000000 in
set_option maxRecDepth 100000 in
theorem sp_X10_owner {g : ev_G} {S : ev_S} (a : Nat) (x0 : Int32) (x1 : Int32) (q0 : vp_in ((26 + (64 * x0)) + x1) 2091) : ev_Fn g m_X10_owner 1 [ev_o 10 a, ev_i x0, ev_i x1] S (some (ev_i (S.1 (a + 1) ((26 + (64 * x0)) + x1).toNatClampNeg))) S := by
  intro Q hQ
  refine sg_X10_owner_0 a x0 x1 ?_
  refine ⟨(q0), ?_⟩
  exact hQ
set_option maxHeartbeats 4000000 in
set_option maxRecDepth 100000 in
theorem sg_X10_bishopsOf_0 {g : ev_G} {S : ev_S} {Q : ev_O → ev_S → Prop} (a : Nat) (x0 : Int32) (x1 : Int32) (hQ : ev_E g m_X10_bishopsOf 2 0 5 [some (ev_o 10 a), some (ev_i x0), some (ev_i x1), some (ev_i 0), some (ev_i 0)] [] S Q) : ev_Cv g m_X10_bishopsOf 2 0 [ev_o 10 a, ev_i x0, ev_i x1] S Q := by
  refine ev_enter (by decide) rfl rfl (Nat.le_of_ble_eq_true rfl) ?_
  show ev_E g m_X10_bishopsOf 2 0 0 [some (ev_o 10 a), some (ev_i x0), some (ev_i x1), none, none] [] S Q
  refine ev_iconst (0) dX10_bishopsOf_0 rfl ?_
  refine ev_istore_n dX10_bishopsOf_1 (Nat.le_of_ble_eq_true rfl) (ev_hw rfl) ?_
  show ev_E g m_X10_bishopsOf 2 0 2 [some (ev_o 10 a), some (ev_i x0), some (ev_i x1), some (ev_i 0), none] [] S Q
  refine ev_iconst (0) dX10_bishopsOf_2 rfl ?_
  refine ev_istore dX10_bishopsOf_3 (Nat.le_of_ble_eq_true rfl) (ev_hw rfl) ?_
  show ev_E g m_X10_bishopsOf 2 0 5 [some (ev_o 10 a), some (ev_i x0), some (ev_i x1), some (ev_i 0), some (ev_i 0)] [] S Q
  exact hQ
set_option maxHeartbeats 4000000 in
set_option maxRecDepth 100000 in
theorem sg_X10_bishopsOf_5 {g : ev_G} {S : ev_S} {Q : ev_O → ev_S → Prop} (a : Nat) (u1 : Int32) (u2 : Int32) (u3 : Int32) (u4 : Int32) (hQ : (((S.1 (a + 1) 0) * (S.1 (a + 1) 0)) ≤ u4 → (
    Q (.inl (some (ev_i u3))) S)) ∧
  (¬ (((S.1 (a + 1) 0) * (S.1 (a + 1) 0)) ≤ u4) → (
    (vp_in ((26 + (64 * u1)) + u4) 2091) ∧ (
      ((S.1 (a + 1) ((26 + (64 * u1)) + u4).toNatClampNeg) = u2 → (
        ev_E g m_X10_bishopsOf 2 0 5 [some (ev_o 10 a), some (ev_i u1), some (ev_i u2), some (ev_i (u3 + 1)), some (ev_i (u4 + 1))] [] S Q)) ∧
      (¬ ((S.1 (a + 1) ((26 + (64 * u1)) + u4).toNatClampNeg) = u2) → (
        ev_E g m_X10_bishopsOf 2 0 5 [some (ev_o 10 a), some (ev_i u1), some (ev_i u2), some (ev_i u3), some (ev_i (u4 + 1))] [] S Q)))))) : ev_E g m_X10_bishopsOf 2 0 5 [some (ev_o 10 a), some (ev_i u1), some (ev_i u2), some (ev_i u3), some (ev_i u4)] [] S Q := by
  refine ev_iload (u4) dX10_bishopsOf_5 rfl ?_
  refine ev_aload_n (ev_o 10 a) dX10_bishopsOf_7 rfl rfl ?_
  refine ev_fV mv_X10_squares 1 10 [] [ev_i u4] dX10_bishopsOf_8 kw_1827 rfl (by decide) rfl (by decide) (Nat.le_of_ble_eq_true rfl) (sp_X10_squares a) ?_ rfl
  refine ev_icmp_ge 34 dX10_bishopsOf_11 (by decide) (fun c1 => ?_) (fun c1 => ?_)
  · replace hQ := hQ.1 c1
    refine ev_iload_n (u3) dX10_bishopsOf_34 rfl ?_
    exact ev_ireturn .int dX10_bishopsOf_35 rfl rfl hQ
  · replace hQ := hQ.2 c1
    refine ev_aload_n (ev_o 10 a) dX10_bishopsOf_14 rfl rfl ?_
    refine ev_iload_n (u1) dX10_bishopsOf_15 rfl ?_
    refine ev_iload (u4) dX10_bishopsOf_16 rfl ?_
    obtain ⟨h1, hQ⟩ := hQ
    refine ev_fV mv_X10_owner 1 10 [ev_i u1, ev_i u4] [] dX10_bishopsOf_18 kw_1831 rfl (by decide) rfl (by decide) (Nat.le_of_ble_eq_true rfl) (sp_X10_owner a u1 u4 h1) ?_ rfl
    refine ev_iload_n (u2) dX10_bishopsOf_21 rfl ?_
    refine ev_icmp_ne 28 dX10_bishopsOf_22 (by decide) (fun c2 => ?_) (fun c2 => ?_)
    · replace hQ := hQ.2 c2
      refine ev_iinc u4 (1) dX10_bishopsOf_28 rfl (by decide) (ev_hw rfl) ?_
      show ev_E g m_X10_bishopsOf 2 0 31 [some (ev_o 10 a), some (ev_i u1), some (ev_i u2), some (ev_i u3), some (ev_i (u4 + 1))] [] S Q
      refine ev_goto 5 dX10_bishopsOf_31 (by decide) ?_
      exact hQ
    · replace hQ := hQ.1 c2
      refine ev_iinc u3 (1) dX10_bishopsOf_25 rfl (by decide) (ev_hw rfl) ?_
      show ev_E g m_X10_bishopsOf 2 0 28 [some (ev_o 10 a), some (ev_i u1), some (ev_i u2), some (ev_i (u3 + 1)), some (ev_i u4)] [] S Q
      refine ev_iinc u4 (1) dX10_bishopsOf_28 rfl (by decide) (ev_hw rfl) ?_
      show ev_E g m_X10_bishopsOf 2 0 31 [some (ev_o 10 a), some (ev_i u1), some (ev_i u2), some (ev_i (u3 + 1)), some (ev_i (u4 + 1))] [] S Q
      refine ev_goto 5 dX10_bishopsOf_31 (by decide) ?_
      exact hQ
set_option maxHeartbeats 4000000 in
set_option maxRecDepth 100000 in
theorem sg_X10_lays_0 {g : ev_G} {S : ev_S} {Q : ev_O → ev_S → Prop} (a : Nat) (x0 : Int32) (x1 : Int32) (x2 : Int32) (hQ : (vp_in ((26 + (64 * x0)) + x1) 2091) ∧ (
    ∀ S1 : ev_S, S1 = (ev_up S (a + 1) ((26 + (64 * x0)) + x1).toNatClampNeg x2) → (
      Q (.inl none) S1))) : ev_Cv g m_X10_lays 1 0 [ev_o 10 a, ev_i x0, ev_i x1, ev_i x2] S Q := by
  refine ev_enter (by decide) rfl rfl (Nat.le_of_ble_eq_true rfl) ?_
  show ev_E g m_X10_lays 1 0 0 [some (ev_o 10 a), some (ev_i x0), some (ev_i x1), some (ev_i x2)] [] S Q
  refine ev_aload_n (ev_o 10 a) dX10_lays_0 rfl rfl ?_
  refine gf_10_0 dX10_lays_1 kw_1853 ?_
  refine ev_bipush (26) dX10_lays_4 (by decide) ?_
  refine ev_bipush (64) dX10_lays_6 (by decide) ?_
  refine ev_iload_n (x0) dX10_lays_8 rfl ?_
  refine ev_imul dX10_lays_9 ?_
  refine ev_iadd dX10_lays_10 ?_
  refine ev_iload_n (x1) dX10_lays_11 rfl ?_
  refine ev_iadd dX10_lays_12 ?_
  refine ev_iload_n (x2) dX10_lays_13 rfl ?_
  obtain ⟨h1, hQ⟩ := hQ
  refine ev_iastore dX10_lays_14 h1 ?_
  refine ev_sub hQ (fun S1 hS1 hQ => ?_)
  refine ev_E.goal (pc' := 15) (L' := [some (ev_o 10 a), some (ev_i x0), some (ev_i x1), some (ev_i x2)]) (K' := []) (S' := S1) ?_ rfl rfl rfl hS1
  exact ev_return dX10_lays_15 rfl hQ
set_option maxHeartbeats 4000000 in
set_option maxRecDepth 100000 in
theorem sp_X10_lays {g : ev_G} {S : ev_S} (a : Nat) (x0 : Int32) (x1 : Int32) (x2 : Int32) (q0 : vp_in ((26 + (64 * x0)) + x1) 2091) : ev_Fn g m_X10_lays 1 [ev_o 10 a, ev_i x0, ev_i x1, ev_i x2] S none (ev_up S (a + 1) ((26 + (64 * x0)) + x1).toNatClampNeg x2) := by
  intro Q hQ
  refine sg_X10_lays_0 a x0 x1 x2 ?_
  refine ⟨(q0), ?_⟩
  intro S1 hS1
  subst hS1
  exact hQ
set_option maxHeartbeats 4000000 in
set_option maxRecDepth 100000 in
theorem sg_X10_readsBishop_0 {g : ev_G} {S : ev_S} {Q : ev_O → ev_S → Prop} (a : Nat) (hQ : ev_Cv g m_X10_reads 2 0 [ev_o 10 a] S (fun o S1 => o = .inl none ∧ (
    ev_Cv g m_X10_looksAt 2 0 [ev_o 10 a, ev_i 0, ev_i 1] S1 (fun o S2 => ∃ v2_ : Bool, o = .inl (some (ev_i (if v2_ = true then 1 else 0))) ∧ (
      (v2_ = true → (
        ev_E g m_X10_readsBishop 5 0 22 [some (ev_o 10 a), some (ev_i (S2.1 a 16)), none, none] [] S2 Q)) ∧
      (¬ (v2_ = true) → (
        ev_E g m_X10_readsBishop 5 0 22 [some (ev_o 10 a), some (ev_i 0), none, none] [] S2 Q))))))) : ev_Cv g m_X10_readsBishop 5 0 [ev_o 10 a] S Q := by
  refine ev_enter (by decide) rfl rfl (Nat.le_of_ble_eq_true rfl) ?_
  show ev_E g m_X10_readsBishop 5 0 0 [some (ev_o 10 a), none, none, none] [] S Q
  refine ev_aload_n (ev_o 10 a) dX10_readsBishop_0 rfl rfl ?_
  refine ev_cV mv_X10_reads 2 0 10 [] [] dX10_readsBishop_1 kw_1773 rfl (by decide) rfl (by decide) (by decide) (Nat.le_of_ble_eq_true rfl) hQ ?_ rfl
  rintro o S1 ⟨rfl, hQ⟩
  show ev_E g m_X10_readsBishop 5 0 4 [some (ev_o 10 a), none, none, none] [] S1 Q
  refine ev_aload_n (ev_o 10 a) dX10_readsBishop_4 rfl rfl ?_
  refine ev_iconst (0) dX10_readsBishop_5 rfl ?_
  refine ev_iconst (1) dX10_readsBishop_6 rfl ?_
  refine ev_cV mv_X10_looksAt 2 0 10 [ev_i 0, ev_i 1] [] dX10_readsBishop_7 kw_1806 rfl (by decide) rfl (by decide) (by decide) (Nat.le_of_ble_eq_true rfl) hQ ?_ rfl
  rintro o S2 ⟨v2_, rfl, hQ⟩
  show ev_E g m_X10_readsBishop 5 0 10 [some (ev_o 10 a), none, none, none] [ev_i (if v2_ = true then 1 else 0)] S2 Q
  by_cases c1 : v2_ = true
  · rw [if_pos c1]
    replace hQ := hQ.1 c1
    refine ev_if_eq 20 dX10_readsBishop_10 (by decide) (fun h9 => absurd h9 (by decide : ¬ ((1 : Int32) = 0))) (fun _ => ?_)
    refine ev_aload_n (ev_o 10 a) dX10_readsBishop_13 rfl rfl ?_
    refine gf_10_16 dX10_readsBishop_14 kw_1869 ?_
    refine ev_goto 21 dX10_readsBishop_17 (by decide) ?_
    refine ev_istore_n dX10_readsBishop_21 (Nat.le_of_ble_eq_true rfl) (ev_hw rfl) ?_
    show ev_E g m_X10_readsBishop 5 0 22 [some (ev_o 10 a), some (ev_i (S2.1 a 16)), none, none] [] S2 Q
    exact hQ
  · rw [if_neg c1]
    replace hQ := hQ.2 c1
    refine ev_if_eq 20 dX10_readsBishop_10 (by decide) (fun _ => ?_) (fun h9 => absurd (by decide : ((0 : Int32) = 0)) h9)
    refine ev_iconst (0) dX10_readsBishop_20 rfl ?_
    refine ev_istore_n dX10_readsBishop_21 (Nat.le_of_ble_eq_true rfl) (ev_hw rfl) ?_
    show ev_E g m_X10_readsBishop 5 0 22 [some (ev_o 10 a), some (ev_i 0), none, none] [] S2 Q
    exact hQ
set_option maxHeartbeats 4000000 in
set_option maxRecDepth 100000 in
theorem sg_X10_readsBishop_22 {g : ev_G} {S : ev_S} {Q : ev_O → ev_S → Prop} (a : Nat) (u1 : Int32) (hQ : ((S.1 a 17) = 0 → (
    ev_Cv g m_X10_bishopsOf 2 0 [ev_o 10 a, ev_i 0, ev_i u1] S (fun o S2 => ∃ v2_ : Int32, o = .inl (some (ev_i v2_)) ∧ (
      (8 ≤ v2_ → (
        ev_Cv g m_X10_must 1 0 [ev_o 10 a, ev_i 0, ev_i 4] S2 (fun o S3 => ∃ v3_ : Bool, o = .inl (some (ev_i (if v3_ = true then 1 else 0))) ∧ (
          ev_E g m_X10_readsBishop 5 0 51 [some (ev_o 10 a), some (ev_i u1), none, none] [] S3 Q)))) ∧
      (¬ (8 ≤ v2_) → (
        ev_Cv g m_X10_must 1 0 [ev_o 10 a, ev_i 1, ev_i 4] S2 (fun o S4 => ∃ v4_ : Bool, o = .inl (some (ev_i (if v4_ = true then 1 else 0))) ∧ (
          ev_E g m_X10_readsBishop 5 0 51 [some (ev_o 10 a), some (ev_i u1), none, none] [] S4 Q)))))))) ∧
  (¬ ((S.1 a 17) = 0) → (
    ev_Cv g m_X10_must 1 0 [ev_o 10 a, ev_i 1, ev_i 4] S (fun o S1 => ∃ v1_ : Bool, o = .inl (some (ev_i (if v1_ = true then 1 else 0))) ∧ (
      ev_E g m_X10_readsBishop 5 0 51 [some (ev_o 10 a), some (ev_i u1), none, none] [] S1 Q))))) : ev_E g m_X10_readsBishop 5 0 22 [some (ev_o 10 a), some (ev_i u1), none, none] [] S Q := by
  refine ev_aload_n (ev_o 10 a) dX10_readsBishop_22 rfl rfl ?_
  refine ev_aload_n (ev_o 10 a) dX10_readsBishop_23 rfl rfl ?_
  refine gf_10_17 dX10_readsBishop_24 kw_1870 ?_
  refine ev_if_ne 41 dX10_readsBishop_27 (by decide) (fun c1 => ?_) (fun c1 => ?_)
  · replace hQ := hQ.2 c1
    refine ev_iconst (1) dX10_readsBishop_41 rfl ?_
    refine ev_goto 46 dX10_readsBishop_42 (by decide) ?_
    refine ev_iconst (4) dX10_readsBishop_46 rfl ?_
    refine ev_cV mv_X10_must 1 0 10 [ev_i 1, ev_i 4] [] dX10_readsBishop_47 kw_1794 rfl (by decide) rfl (by decide) (by decide) (Nat.le_of_ble_eq_true rfl) hQ ?_ rfl
    rintro o S1 ⟨v1_, rfl, hQ⟩
    show ev_E g m_X10_readsBishop 5 0 50 [some (ev_o 10 a), some (ev_i u1), none, none] [ev_i (if v1_ = true then 1 else 0)] S1 Q
    refine ev_pop dX10_readsBishop_50 rfl ?_
    exact hQ
  · replace hQ := hQ.1 c1
    refine ev_aload_n (ev_o 10 a) dX10_readsBishop_30 rfl rfl ?_
    refine ev_iconst (0) dX10_readsBishop_31 rfl ?_
    refine ev_iload_n (u1) dX10_readsBishop_32 rfl ?_
    refine ev_cV mv_X10_bishopsOf 2 0 10 [ev_i 0, ev_i u1] [ev_o 10 a] dX10_readsBishop_33 kw_1823 rfl (by decide) rfl (by decide) (by decide) (Nat.le_of_ble_eq_true rfl) hQ ?_ rfl
    rintro o S2 ⟨v2_, rfl, hQ⟩
    show ev_E g m_X10_readsBishop 5 0 36 [some (ev_o 10 a), some (ev_i u1), none, none] [ev_i v2_, ev_o 10 a] S2 Q
    refine ev_bipush (8) dX10_readsBishop_36 (by decide) ?_
    refine ev_icmp_ge 45 dX10_readsBishop_38 (by decide) (fun c2 => ?_) (fun c2 => ?_)
    · replace hQ := hQ.1 c2
      refine ev_iconst (0) dX10_readsBishop_45 rfl ?_
      refine ev_iconst (4) dX10_readsBishop_46 rfl ?_
      refine ev_cV mv_X10_must 1 0 10 [ev_i 0, ev_i 4] [] dX10_readsBishop_47 kw_1794 rfl (by decide) rfl (by decide) (by decide) (Nat.le_of_ble_eq_true rfl) hQ ?_ rfl
      rintro o S3 ⟨v3_, rfl, hQ⟩
      show ev_E g m_X10_readsBishop 5 0 50 [some (ev_o 10 a), some (ev_i u1), none, none] [ev_i (if v3_ = true then 1 else 0)] S3 Q
      refine ev_pop dX10_readsBishop_50 rfl ?_
      exact hQ
    · replace hQ := hQ.2 c2
      refine ev_iconst (1) dX10_readsBishop_41 rfl ?_
      refine ev_goto 46 dX10_readsBishop_42 (by decide) ?_
      refine ev_iconst (4) dX10_readsBishop_46 rfl ?_
      refine ev_cV mv_X10_must 1 0 10 [ev_i 1, ev_i 4] [] dX10_readsBishop_47 kw_1794 rfl (by decide) rfl (by decide) (by decide) (Nat.le_of_ble_eq_true rfl) hQ ?_ rfl
      rintro o S4 ⟨v4_, rfl, hQ⟩
      show ev_E g m_X10_readsBishop 5 0 50 [some (ev_o 10 a), some (ev_i u1), none, none] [ev_i (if v4_ = true then 1 else 0)] S4 Q
      refine ev_pop dX10_readsBishop_50 rfl ?_
      exact hQ
set_option maxHeartbeats 4000000 in
set_option maxRecDepth 100000 in
theorem sg_X10_readsBishop_51 {g : ev_G} {S : ev_S} {Q : ev_O → ev_S → Prop} (a : Nat) (u1 : Int32) (hQ : ev_Cv g m_X10_passes 3 0 [ev_o 10 a] S (fun o S1 => o = .inl none ∧ (
    ev_Cv g m_X10_number 4 0 [ev_o 10 a, ev_i 0, ev_i ((S1.1 (a + 1) 0) - 1)] S1 (fun o S2 => ∃ v2_ : Int32, o = .inl (some (ev_i v2_)) ∧ (
      ev_E g m_X10_readsBishop 5 0 69 [some (ev_o 10 a), some (ev_i u1), some (ev_i v2_), none] [] S2 Q))))) : ev_E g m_X10_readsBishop 5 0 51 [some (ev_o 10 a), some (ev_i u1), none, none] [] S Q := by
  refine ev_aload_n (ev_o 10 a) dX10_readsBishop_51 rfl rfl ?_
  refine ev_cV mv_X10_passes 3 0 10 [] [] dX10_readsBishop_52 kw_1798 rfl (by decide) rfl (by decide) (by decide) (Nat.le_of_ble_eq_true rfl) hQ ?_ rfl
  rintro o S1 ⟨rfl, hQ⟩
  show ev_E g m_X10_readsBishop 5 0 55 [some (ev_o 10 a), some (ev_i u1), none, none] [] S1 Q
  refine ev_aload_n (ev_o 10 a) dX10_readsBishop_55 rfl rfl ?_
  refine ev_iconst (0) dX10_readsBishop_56 rfl ?_
  refine ev_aload_n (ev_o 10 a) dX10_readsBishop_57 rfl rfl ?_
  refine gf_10_0 dX10_readsBishop_58 kw_1853 ?_
  refine ev_iconst (0) dX10_readsBishop_61 rfl ?_
  refine ev_iaload dX10_readsBishop_62 (j_vin (by decide)) ?_
  refine ev_iconst (1) dX10_readsBishop_63 rfl ?_
  refine ev_isub dX10_readsBishop_64 ?_
  refine ev_cV mv_X10_number 4 0 10 [ev_i 0, ev_i ((S1.1 (a + 1) 0) - 1)] [] dX10_readsBishop_65 kw_1802 rfl (by decide) rfl (by decide) (by decide) (Nat.le_of_ble_eq_true rfl) hQ ?_ rfl
  rintro o S2 ⟨v2_, rfl, hQ⟩
  show ev_E g m_X10_readsBishop 5 0 68 [some (ev_o 10 a), some (ev_i u1), none, none] [ev_i v2_] S2 Q
  refine ev_istore_n dX10_readsBishop_68 (Nat.le_of_ble_eq_true rfl) (ev_hw rfl) ?_
  show ev_E g m_X10_readsBishop 5 0 69 [some (ev_o 10 a), some (ev_i u1), some (ev_i v2_), none] [] S2 Q
  exact hQ
set_option maxHeartbeats 4000000 in
set_option maxRecDepth 100000 in
theorem sg_X10_readsBishop_69 {g : ev_G} {S : ev_S} {Q : ev_O → ev_S → Prop} (a : Nat) (u1 : Int32) (u2 : Int32) (hQ : ev_Cv g m_X10_looksAt 2 0 [ev_o 10 a, ev_i 0, ev_i ((S.1 (a + 1) 0) - 1)] S (fun o S1 => ∃ v1_ : Bool, o = .inl (some (ev_i (if v1_ = true then 1 else 0))) ∧ (
    (v1_ = true → (
      ev_E g m_X10_readsBishop 5 0 94 [some (ev_o 10 a), some (ev_i u1), some (ev_i u2), some (ev_i (S1.1 a 16))] [] S1 Q)) ∧
    (¬ (v1_ = true) → (
      ev_E g m_X10_readsBishop 5 0 94 [some (ev_o 10 a), some (ev_i u1), some (ev_i u2), some (ev_i 0)] [] S1 Q))))) : ev_E g m_X10_readsBishop 5 0 69 [some (ev_o 10 a), some (ev_i u1), some (ev_i u2), none] [] S Q := by
  refine ev_aload_n (ev_o 10 a) dX10_readsBishop_69 rfl rfl ?_
  refine ev_iconst (0) dX10_readsBishop_70 rfl ?_
  refine ev_aload_n (ev_o 10 a) dX10_readsBishop_71 rfl rfl ?_
  refine gf_10_0 dX10_readsBishop_72 kw_1853 ?_
  refine ev_iconst (0) dX10_readsBishop_75 rfl ?_
  refine ev_iaload dX10_readsBishop_76 (j_vin (by decide)) ?_
  refine ev_iconst (1) dX10_readsBishop_77 rfl ?_
  refine ev_isub dX10_readsBishop_78 ?_
  refine ev_cV mv_X10_looksAt 2 0 10 [ev_i 0, ev_i ((S.1 (a + 1) 0) - 1)] [] dX10_readsBishop_79 kw_1806 rfl (by decide) rfl (by decide) (by decide) (Nat.le_of_ble_eq_true rfl) hQ ?_ rfl
  rintro o S1 ⟨v1_, rfl, hQ⟩
  show ev_E g m_X10_readsBishop 5 0 82 [some (ev_o 10 a), some (ev_i u1), some (ev_i u2), none] [ev_i (if v1_ = true then 1 else 0)] S1 Q
  by_cases c1 : v1_ = true
  · rw [if_pos c1]
    replace hQ := hQ.1 c1
    refine ev_if_eq 92 dX10_readsBishop_82 (by decide) (fun h9 => absurd h9 (by decide : ¬ ((1 : Int32) = 0))) (fun _ => ?_)
    refine ev_aload_n (ev_o 10 a) dX10_readsBishop_85 rfl rfl ?_
    refine gf_10_16 dX10_readsBishop_86 kw_1869 ?_
    refine ev_goto 93 dX10_readsBishop_89 (by decide) ?_
    refine ev_istore_n dX10_readsBishop_93 (Nat.le_of_ble_eq_true rfl) (ev_hw rfl) ?_
    show ev_E g m_X10_readsBishop 5 0 94 [some (ev_o 10 a), some (ev_i u1), some (ev_i u2), some (ev_i (S1.1 a 16))] [] S1 Q
    exact hQ
  · rw [if_neg c1]
    replace hQ := hQ.2 c1
    refine ev_if_eq 92 dX10_readsBishop_82 (by decide) (fun _ => ?_) (fun h9 => absurd (by decide : ((0 : Int32) = 0)) h9)
    refine ev_iconst (0) dX10_readsBishop_92 rfl ?_
    refine ev_istore_n dX10_readsBishop_93 (Nat.le_of_ble_eq_true rfl) (ev_hw rfl) ?_
    show ev_E g m_X10_readsBishop 5 0 94 [some (ev_o 10 a), some (ev_i u1), some (ev_i u2), some (ev_i 0)] [] S1 Q
    exact hQ
set_option maxHeartbeats 4000000 in
set_option maxRecDepth 100000 in
theorem sg_X10_readsBishop_94 {g : ev_G} {S : ev_S} {Q : ev_O → ev_S → Prop} (a : Nat) (u1 : Int32) (u2 : Int32) (u3 : Int32) (hQ : ((S.1 a 17) = 0 → (
    (vp_in ((26 + (64 * 0)) + (((S.1 (a + 1) 0) * u2) + u3)) 2091) ∧ (
      ((S.1 (a + 1) ((26 + (64 * 0)) + (((S.1 (a + 1) 0) * u2) + u3)).toNatClampNeg) = (-1) → (
        ev_Cv g m_X10_must 1 0 [ev_o 10 a, ev_i 1, ev_i 3] S (fun o S3 => ∃ v3_ : Bool, o = .inl (some (ev_i (if v3_ = true then 1 else 0))) ∧ (
          ev_E g m_X10_readsBishop 5 0 131 [some (ev_o 10 a), some (ev_i u1), some (ev_i u2), some (ev_i u3)] [] S3 Q)))) ∧
      (¬ ((S.1 (a + 1) ((26 + (64 * 0)) + (((S.1 (a + 1) 0) * u2) + u3)).toNatClampNeg) = (-1)) → (
        ev_Cv g m_X10_must 1 0 [ev_o 10 a, ev_i 0, ev_i 3] S (fun o S2 => ∃ v2_ : Bool, o = .inl (some (ev_i (if v2_ = true then 1 else 0))) ∧ (
          ev_E g m_X10_readsBishop 5 0 131 [some (ev_o 10 a), some (ev_i u1), some (ev_i u2), some (ev_i u3)] [] S2 Q))))))) ∧
  (¬ ((S.1 a 17) = 0) → (
    ev_Cv g m_X10_must 1 0 [ev_o 10 a, ev_i 1, ev_i 3] S (fun o S1 => ∃ v1_ : Bool, o = .inl (some (ev_i (if v1_ = true then 1 else 0))) ∧ (
      ev_E g m_X10_readsBishop 5 0 131 [some (ev_o 10 a), some (ev_i u1), some (ev_i u2), some (ev_i u3)] [] S1 Q))))) : ev_E g m_X10_readsBishop 5 0 94 [some (ev_o 10 a), some (ev_i u1), some (ev_i u2), some (ev_i u3)] [] S Q := by
  refine ev_aload_n (ev_o 10 a) dX10_readsBishop_94 rfl rfl ?_
  refine ev_aload_n (ev_o 10 a) dX10_readsBishop_95 rfl rfl ?_
  refine gf_10_17 dX10_readsBishop_96 kw_1870 ?_
  refine ev_if_ne 121 dX10_readsBishop_99 (by decide) (fun c1 => ?_) (fun c1 => ?_)
  · replace hQ := hQ.2 c1
    refine ev_iconst (1) dX10_readsBishop_121 rfl ?_
    refine ev_goto 126 dX10_readsBishop_122 (by decide) ?_
    refine ev_iconst (3) dX10_readsBishop_126 rfl ?_
    refine ev_cV mv_X10_must 1 0 10 [ev_i 1, ev_i 3] [] dX10_readsBishop_127 kw_1794 rfl (by decide) rfl (by decide) (by decide) (Nat.le_of_ble_eq_true rfl) hQ ?_ rfl
    rintro o S1 ⟨v1_, rfl, hQ⟩
    show ev_E g m_X10_readsBishop 5 0 130 [some (ev_o 10 a), some (ev_i u1), some (ev_i u2), some (ev_i u3)] [ev_i (if v1_ = true then 1 else 0)] S1 Q
    refine ev_pop dX10_readsBishop_130 rfl ?_
    exact hQ
  · replace hQ := hQ.1 c1
    refine ev_aload_n (ev_o 10 a) dX10_readsBishop_102 rfl rfl ?_
    refine ev_iconst (0) dX10_readsBishop_103 rfl ?_
    refine ev_aload_n (ev_o 10 a) dX10_readsBishop_104 rfl rfl ?_
    refine gf_10_0 dX10_readsBishop_105 kw_1853 ?_
    refine ev_iconst (0) dX10_readsBishop_108 rfl ?_
    refine ev_iaload dX10_readsBishop_109 (j_vin (by decide)) ?_
    refine ev_iload_n (u2) dX10_readsBishop_110 rfl ?_
    refine ev_imul dX10_readsBishop_111 ?_
    refine ev_iload_n (u3) dX10_readsBishop_112 rfl ?_
    refine ev_iadd dX10_readsBishop_113 ?_
    obtain ⟨h1, hQ⟩ := hQ
    refine ev_fV mv_X10_owner 1 10 [ev_i 0, ev_i (((S.1 (a + 1) 0) * u2) + u3)] [ev_o 10 a] dX10_readsBishop_114 kw_1831 rfl (by decide) rfl (by decide) (Nat.le_of_ble_eq_true rfl) (sp_X10_owner a 0 (((S.1 (a + 1) 0) * u2) + u3) h1) ?_ rfl
    refine ev_iconst (-1) dX10_readsBishop_117 rfl ?_
    refine ev_icmp_ne 125 dX10_readsBishop_118 (by decide) (fun c2 => ?_) (fun c2 => ?_)
    · replace hQ := hQ.2 c2
      refine ev_iconst (0) dX10_readsBishop_125 rfl ?_
      refine ev_iconst (3) dX10_readsBishop_126 rfl ?_
      refine ev_cV mv_X10_must 1 0 10 [ev_i 0, ev_i 3] [] dX10_readsBishop_127 kw_1794 rfl (by decide) rfl (by decide) (by decide) (Nat.le_of_ble_eq_true rfl) hQ ?_ rfl
      rintro o S2 ⟨v2_, rfl, hQ⟩
      show ev_E g m_X10_readsBishop 5 0 130 [some (ev_o 10 a), some (ev_i u1), some (ev_i u2), some (ev_i u3)] [ev_i (if v2_ = true then 1 else 0)] S2 Q
      refine ev_pop dX10_readsBishop_130 rfl ?_
      exact hQ
    · replace hQ := hQ.1 c2
      refine ev_iconst (1) dX10_readsBishop_121 rfl ?_
      refine ev_goto 126 dX10_readsBishop_122 (by decide) ?_
      refine ev_iconst (3) dX10_readsBishop_126 rfl ?_
      refine ev_cV mv_X10_must 1 0 10 [ev_i 1, ev_i 3] [] dX10_readsBishop_127 kw_1794 rfl (by decide) rfl (by decide) (by decide) (Nat.le_of_ble_eq_true rfl) hQ ?_ rfl
      rintro o S3 ⟨v3_, rfl, hQ⟩
      show ev_E g m_X10_readsBishop 5 0 130 [some (ev_o 10 a), some (ev_i u1), some (ev_i u2), some (ev_i u3)] [ev_i (if v3_ = true then 1 else 0)] S3 Q
      refine ev_pop dX10_readsBishop_130 rfl ?_
      exact hQ
set_option maxHeartbeats 4000000 in
set_option maxRecDepth 100000 in
theorem sg_X10_readsBishop_131 {g : ev_G} {S : ev_S} {Q : ev_O → ev_S → Prop} (a : Nat) (u1 : Int32) (u2 : Int32) (u3 : Int32) (hQ : ev_Cv g m_X10_passes 3 0 [ev_o 10 a] S (fun o S1 => o = .inl none ∧ (
    ev_Cv g m_X10_takesSign 4 0 [ev_o 10 a, ev_i 59] S1 (fun o S2 => o = .inl none ∧ (
      ((S2.1 a 17) = 0 → (
        (vp_in ((26 + (64 * 0)) + (((S2.1 (a + 1) 0) * u2) + u3)) 2091) ∧ (
          ∀ S3 : ev_S, S3 = (ev_up S2 (a + 1) ((26 + (64 * 0)) + (((S2.1 (a + 1) 0) * u2) + u3)).toNatClampNeg u1) → (
            (vp_in ((26 + (64 * 1)) + (((S3.1 (a + 1) 0) * u2) + u3)) 2091) ∧ (
              ∀ S4 : ev_S, S4 = (ev_up S3 (a + 1) ((26 + (64 * 1)) + (((S3.1 (a + 1) 0) * u2) + u3)).toNatClampNeg u1) → (
                (vp_in (9 + u1) 2091) ∧ (
                  ∀ S5 : ev_S, S5 = (ev_up S4 (a + 1) (9 + u1).toNatClampNeg ((S4.1 (a + 1) (9 + u1).toNatClampNeg) + 1)) → (
                    Q (.inl none) S5)))))))) ∧
      (¬ ((S2.1 a 17) = 0) → (
        Q (.inl none) S2))))))) : ev_E g m_X10_readsBishop 5 0 131 [some (ev_o 10 a), some (ev_i u1), some (ev_i u2), some (ev_i u3)] [] S Q := by
  refine ev_aload_n (ev_o 10 a) dX10_readsBishop_131 rfl rfl ?_
  refine ev_cV mv_X10_passes 3 0 10 [] [] dX10_readsBishop_132 kw_1798 rfl (by decide) rfl (by decide) (by decide) (Nat.le_of_ble_eq_true rfl) hQ ?_ rfl
  rintro o S1 ⟨rfl, hQ⟩
  show ev_E g m_X10_readsBishop 5 0 135 [some (ev_o 10 a), some (ev_i u1), some (ev_i u2), some (ev_i u3)] [] S1 Q
  refine ev_aload_n (ev_o 10 a) dX10_readsBishop_135 rfl rfl ?_
  refine ev_bipush (59) dX10_readsBishop_136 (by decide) ?_
  refine ev_cV mv_X10_takesSign 4 0 10 [ev_i 59] [] dX10_readsBishop_138 kw_1810 rfl (by decide) rfl (by decide) (by decide) (Nat.le_of_ble_eq_true rfl) hQ ?_ rfl
  rintro o S2 ⟨rfl, hQ⟩
  show ev_E g m_X10_readsBishop 5 0 141 [some (ev_o 10 a), some (ev_i u1), some (ev_i u2), some (ev_i u3)] [] S2 Q
  refine ev_aload_n (ev_o 10 a) dX10_readsBishop_141 rfl rfl ?_
  refine gf_10_17 dX10_readsBishop_142 kw_1870 ?_
  refine ev_if_eq 149 dX10_readsBishop_145 (by decide) (fun c1 => ?_) (fun c1 => ?_)
  · replace hQ := hQ.1 c1
    refine ev_aload_n (ev_o 10 a) dX10_readsBishop_149 rfl rfl ?_
    refine ev_iconst (0) dX10_readsBishop_150 rfl ?_
    refine ev_aload_n (ev_o 10 a) dX10_readsBishop_151 rfl rfl ?_
    refine gf_10_0 dX10_readsBishop_152 kw_1853 ?_
    refine ev_iconst (0) dX10_readsBishop_155 rfl ?_
    refine ev_iaload dX10_readsBishop_156 (j_vin (by decide)) ?_
    refine ev_iload_n (u2) dX10_readsBishop_157 rfl ?_
    refine ev_imul dX10_readsBishop_158 ?_
    refine ev_iload_n (u3) dX10_readsBishop_159 rfl ?_
    refine ev_iadd dX10_readsBishop_160 ?_
    refine ev_iload_n (u1) dX10_readsBishop_161 rfl ?_
    obtain ⟨h1, hQ⟩ := hQ
    refine ev_fVn mv_X10_lays 1 10 [ev_i 0, ev_i (((S2.1 (a + 1) 0) * u2) + u3), ev_i u1] [] dX10_readsBishop_162 kw_1835 rfl (by decide) rfl (by decide) (Nat.le_of_ble_eq_true rfl) (sp_X10_lays a 0 (((S2.1 (a + 1) 0) * u2) + u3) u1 h1) ?_ rfl
    refine ev_sub hQ (fun S3 hS3 hQ => ?_)
    refine ev_E.goal (pc' := 165) (L' := [some (ev_o 10 a), some (ev_i u1), some (ev_i u2), some (ev_i u3)]) (K' := []) (S' := S3) ?_ rfl rfl rfl hS3
    refine ev_aload_n (ev_o 10 a) dX10_readsBishop_165 rfl rfl ?_
    refine ev_iconst (1) dX10_readsBishop_166 rfl ?_
    refine ev_aload_n (ev_o 10 a) dX10_readsBishop_167 rfl rfl ?_
    refine gf_10_0 dX10_readsBishop_168 kw_1853 ?_
    refine ev_iconst (0) dX10_readsBishop_171 rfl ?_
    refine ev_iaload dX10_readsBishop_172 (j_vin (by decide)) ?_
    refine ev_iload_n (u2) dX10_readsBishop_173 rfl ?_
    refine ev_imul dX10_readsBishop_174 ?_
    refine ev_iload_n (u3) dX10_readsBishop_175 rfl ?_
    refine ev_iadd dX10_readsBishop_176 ?_
    refine ev_iload_n (u1) dX10_readsBishop_177 rfl ?_
    obtain ⟨h2, hQ⟩ := hQ
    refine ev_fVn mv_X10_lays 1 10 [ev_i 1, ev_i (((S3.1 (a + 1) 0) * u2) + u3), ev_i u1] [] dX10_readsBishop_178 kw_1835 rfl (by decide) rfl (by decide) (Nat.le_of_ble_eq_true rfl) (sp_X10_lays a 1 (((S3.1 (a + 1) 0) * u2) + u3) u1 h2) ?_ rfl
    refine ev_sub hQ (fun S4 hS4 hQ => ?_)
    refine ev_E.goal (pc' := 181) (L' := [some (ev_o 10 a), some (ev_i u1), some (ev_i u2), some (ev_i u3)]) (K' := []) (S' := S4) ?_ rfl rfl rfl hS4
    refine ev_aload_n (ev_o 10 a) dX10_readsBishop_181 rfl rfl ?_
    refine gf_10_0 dX10_readsBishop_182 kw_1853 ?_
    refine ev_bipush (9) dX10_readsBishop_185 (by decide) ?_
    refine ev_iload_n (u1) dX10_readsBishop_187 rfl ?_
    refine ev_iadd dX10_readsBishop_188 ?_
    refine ev_dup2 dX10_readsBishop_189 rfl rfl ?_
    obtain ⟨h3, hQ⟩ := hQ
    refine ev_iaload dX10_readsBishop_190 h3 ?_
    refine ev_iconst (1) dX10_readsBishop_191 rfl ?_
    refine ev_iadd dX10_readsBishop_192 ?_
    refine ev_iastore dX10_readsBishop_193 h3 ?_
    refine ev_sub hQ (fun S5 hS5 hQ => ?_)
    refine ev_E.goal (pc' := 194) (L' := [some (ev_o 10 a), some (ev_i u1), some (ev_i u2), some (ev_i u3)]) (K' := []) (S' := S5) ?_ rfl rfl rfl hS5
    exact ev_return dX10_readsBishop_194 rfl hQ
  · replace hQ := hQ.2 c1
    exact ev_return dX10_readsBishop_148 rfl hQ
set_option maxHeartbeats 4000000 in
set_option maxRecDepth 100000 in
theorem sg_X10_putPass_0 {g : ev_G} {S : ev_S} {Q : ev_O → ev_S → Prop} (a : Nat) (x0 : Int32) (x1 : Int32) (x2 : Int32) (hQ : (vp_in ((1140 + (15 * x0)) + x1) 2091) ∧ (
    ∀ S1 : ev_S, S1 = (ev_up S (a + 1) ((1140 + (15 * x0)) + x1).toNatClampNeg x2) → (
      Q (.inl none) S1))) : ev_Cv g m_X10_putPass 1 0 [ev_o 10 a, ev_i x0, ev_i x1, ev_i x2] S Q := by
  refine ev_enter (by decide) rfl rfl (Nat.le_of_ble_eq_true rfl) ?_
  show ev_E g m_X10_putPass 1 0 0 [some (ev_o 10 a), some (ev_i x0), some (ev_i x1), some (ev_i x2)] [] S Q
  refine ev_aload_n (ev_o 10 a) dX10_putPass_0 rfl rfl ?_
  refine gf_10_0 dX10_putPass_1 kw_1853 ?_
  refine ev_sipush (1140) dX10_putPass_4 (by decide) ?_
  refine ev_bipush (15) dX10_putPass_7 (by decide) ?_
  refine ev_iload_n (x0) dX10_putPass_9 rfl ?_
  refine ev_imul dX10_putPass_10 ?_
  refine ev_iadd dX10_putPass_11 ?_
  refine ev_iload_n (x1) dX10_putPass_12 rfl ?_
  refine ev_iadd dX10_putPass_13 ?_
  refine ev_iload_n (x2) dX10_putPass_14 rfl ?_
  obtain ⟨h1, hQ⟩ := hQ
  refine ev_iastore dX10_putPass_15 h1 ?_
  refine ev_sub hQ (fun S1 hS1 hQ => ?_)
  refine ev_E.goal (pc' := 16) (L' := [some (ev_o 10 a), some (ev_i x0), some (ev_i x1), some (ev_i x2)]) (K' := []) (S' := S1) ?_ rfl rfl rfl hS1
  exact ev_return dX10_putPass_16 rfl hQ
set_option maxHeartbeats 4000000 in
set_option maxRecDepth 100000 in
theorem sp_X10_putPass {g : ev_G} {S : ev_S} (a : Nat) (x0 : Int32) (x1 : Int32) (x2 : Int32) (q0 : vp_in ((1140 + (15 * x0)) + x1) 2091) : ev_Fn g m_X10_putPass 1 [ev_o 10 a, ev_i x0, ev_i x1, ev_i x2] S none (ev_up S (a + 1) ((1140 + (15 * x0)) + x1).toNatClampNeg x2) := by
  intro Q hQ
  refine sg_X10_putPass_0 a x0 x1 x2 ?_
  refine ⟨(q0), ?_⟩
  intro S1 hS1
  subst hS1
  exact hQ
set_option maxHeartbeats 4000000 in
set_option maxRecDepth 100000 in
theorem sg_X10_readsPass_0 {g : ev_G} {S : ev_S} {Q : ev_O → ev_S → Prop} (a : Nat) (hQ : ev_Cv g m_X10_isWord 5 0 [ev_o 10 a, ev_x 1 30] S (fun o S1 => ∃ v1_ : Bool, o = .inl (some (ev_i (if v1_ = true then 1 else 0))) ∧ (
    (v1_ = true → (
      ev_Cv g m_X10_must 1 0 [ev_o 10 a, ev_i 1, ev_i 1] S1 (fun o S2 => ∃ v2_ : Bool, o = .inl (some (ev_i (if v2_ = true then 1 else 0))) ∧ (
        ev_E g m_X10_readsPass 6 0 12 [some (ev_o 10 a), none, none, none] [] S2 Q)))) ∧
    (¬ (v1_ = true) → (
      ev_Cv g m_X10_must 1 0 [ev_o 10 a, ev_i 0, ev_i 1] S1 (fun o S3 => ∃ v3_ : Bool, o = .inl (some (ev_i (if v3_ = true then 1 else 0))) ∧ (
        ev_E g m_X10_readsPass 6 0 12 [some (ev_o 10 a), none, none, none] [] S3 Q))))))) : ev_Cv g m_X10_readsPass 6 0 [ev_o 10 a] S Q := by
  refine ev_enter (by decide) rfl rfl (Nat.le_of_ble_eq_true rfl) ?_
  show ev_E g m_X10_readsPass 6 0 0 [some (ev_o 10 a), none, none, none] [] S Q
  refine ev_aload_n (ev_o 10 a) dX10_readsPass_0 rfl rfl ?_
  refine ev_aload_n (ev_o 10 a) dX10_readsPass_1 rfl rfl ?_
  refine ev_ldc "pass" 30 dX10_readsPass_2 (List.mem_of_getElem? (i := 30) rfl) (by decide) ?_
  refine ev_cV mv_X10_isWord 5 0 10 [ev_x 1 30] [ev_o 10 a] dX10_readsPass_4 kw_1790 rfl (by decide) rfl (by decide) (by decide) (Nat.le_of_ble_eq_true rfl) hQ ?_ rfl
  rintro o S1 ⟨v1_, rfl, hQ⟩
  show ev_E g m_X10_readsPass 6 0 7 [some (ev_o 10 a), none, none, none] [ev_i (if v1_ = true then 1 else 0), ev_o 10 a] S1 Q
  by_cases c1 : v1_ = true
  · rw [if_pos c1]
    replace hQ := hQ.1 c1
    refine ev_iconst (1) dX10_readsPass_7 rfl ?_
    refine ev_cV mv_X10_must 1 0 10 [ev_i 1, ev_i 1] [] dX10_readsPass_8 kw_1794 rfl (by decide) rfl (by decide) (by decide) (Nat.le_of_ble_eq_true rfl) hQ ?_ rfl
    rintro o S2 ⟨v2_, rfl, hQ⟩
    show ev_E g m_X10_readsPass 6 0 11 [some (ev_o 10 a), none, none, none] [ev_i (if v2_ = true then 1 else 0)] S2 Q
    refine ev_pop dX10_readsPass_11 rfl ?_
    exact hQ
  · rw [if_neg c1]
    replace hQ := hQ.2 c1
    refine ev_iconst (1) dX10_readsPass_7 rfl ?_
    refine ev_cV mv_X10_must 1 0 10 [ev_i 0, ev_i 1] [] dX10_readsPass_8 kw_1794 rfl (by decide) rfl (by decide) (by decide) (Nat.le_of_ble_eq_true rfl) hQ ?_ rfl
    rintro o S3 ⟨v3_, rfl, hQ⟩
    show ev_E g m_X10_readsPass 6 0 11 [some (ev_o 10 a), none, none, none] [ev_i (if v3_ = true then 1 else 0)] S3 Q
    refine ev_pop dX10_readsPass_11 rfl ?_
    exact hQ
set_option maxHeartbeats 4000000 in
set_option maxRecDepth 100000 in
theorem sg_X10_readsPass_12 {g : ev_G} {S : ev_S} {Q : ev_O → ev_S → Prop} (a : Nat) (hQ : (4 ≤ (S.1 (a + 1) 3) → (
    ev_Cv g m_X10_must 1 0 [ev_o 10 a, ev_i 0, ev_i 4] S (fun o S1 => ∃ v1_ : Bool, o = .inl (some (ev_i (if v1_ = true then 1 else 0))) ∧ (
      ev_E g m_X10_readsPass 6 0 33 [some (ev_o 10 a), none, none, none] [] S1 Q)))) ∧
  (¬ (4 ≤ (S.1 (a + 1) 3)) → (
    ev_Cv g m_X10_must 1 0 [ev_o 10 a, ev_i 1, ev_i 4] S (fun o S2 => ∃ v2_ : Bool, o = .inl (some (ev_i (if v2_ = true then 1 else 0))) ∧ (
      ev_E g m_X10_readsPass 6 0 33 [some (ev_o 10 a), none, none, none] [] S2 Q))))) : ev_E g m_X10_readsPass 6 0 12 [some (ev_o 10 a), none, none, none] [] S Q := by
  refine ev_aload_n (ev_o 10 a) dX10_readsPass_12 rfl rfl ?_
  refine ev_aload_n (ev_o 10 a) dX10_readsPass_13 rfl rfl ?_
  refine gf_10_0 dX10_readsPass_14 kw_1853 ?_
  refine ev_iconst (3) dX10_readsPass_17 rfl ?_
  refine ev_iaload dX10_readsPass_18 (j_vin (by decide)) ?_
  refine ev_iconst (4) dX10_readsPass_19 rfl ?_
  refine ev_icmp_ge 27 dX10_readsPass_20 (by decide) (fun c1 => ?_) (fun c1 => ?_)
  · replace hQ := hQ.1 c1
    refine ev_iconst (0) dX10_readsPass_27 rfl ?_
    refine ev_iconst (4) dX10_readsPass_28 rfl ?_
    refine ev_cV mv_X10_must 1 0 10 [ev_i 0, ev_i 4] [] dX10_readsPass_29 kw_1794 rfl (by decide) rfl (by decide) (by decide) (Nat.le_of_ble_eq_true rfl) hQ ?_ rfl
    rintro o S1 ⟨v1_, rfl, hQ⟩
    show ev_E g m_X10_readsPass 6 0 32 [some (ev_o 10 a), none, none, none] [ev_i (if v1_ = true then 1 else 0)] S1 Q
    refine ev_pop dX10_readsPass_32 rfl ?_
    exact hQ
  · replace hQ := hQ.2 c1
    refine ev_iconst (1) dX10_readsPass_23 rfl ?_
    refine ev_goto 28 dX10_readsPass_24 (by decide) ?_
    refine ev_iconst (4) dX10_readsPass_28 rfl ?_
    refine ev_cV mv_X10_must 1 0 10 [ev_i 1, ev_i 4] [] dX10_readsPass_29 kw_1794 rfl (by decide) rfl (by decide) (by decide) (Nat.le_of_ble_eq_true rfl) hQ ?_ rfl
    rintro o S2 ⟨v2_, rfl, hQ⟩
    show ev_E g m_X10_readsPass 6 0 32 [some (ev_o 10 a), none, none, none] [ev_i (if v2_ = true then 1 else 0)] S2 Q
    refine ev_pop dX10_readsPass_32 rfl ?_
    exact hQ
set_option maxHeartbeats 4000000 in
set_option maxRecDepth 100000 in
theorem sg_X10_readsPass_33 {g : ev_G} {S : ev_S} {Q : ev_O → ev_S → Prop} (a : Nat) (hQ : ev_Cv g m_X10_passes 3 0 [ev_o 10 a] S (fun o S1 => o = .inl none ∧ (
    ev_Cv g m_X10_number 4 0 [ev_o 10 a, ev_i 1, ev_i 9] S1 (fun o S2 => ∃ v2_ : Int32, o = .inl (some (ev_i v2_)) ∧ (
      ev_Cv g m_X10_number 4 0 [ev_o 10 a, ev_i 0, ev_i 9] S2 (fun o S3 => ∃ v3_ : Int32, o = .inl (some (ev_i v3_)) ∧ (
        ev_Cv g m_X10_number 4 0 [ev_o 10 a, ev_i 0, ev_i 9] S3 (fun o S4 => ∃ v4_ : Int32, o = .inl (some (ev_i v4_)) ∧ (
          ev_Cv g m_X10_takesSign 4 0 [ev_o 10 a, ev_i 59] S4 (fun o S5 => o = .inl none ∧ (
            ((S5.1 a 17) = 0 → (
              (vp_in ((1140 + (15 * (S5.1 (a + 1) 3))) + 0) 2091) ∧ (
                ∀ S6 : ev_S, S6 = (ev_up S5 (a + 1) ((1140 + (15 * (S5.1 (a + 1) 3))) + 0).toNatClampNeg v2_) → (
                  (vp_in ((1140 + (15 * (S6.1 (a + 1) 3))) + 1) 2091) ∧ (
                    ∀ S7 : ev_S, S7 = (ev_up S6 (a + 1) ((1140 + (15 * (S6.1 (a + 1) 3))) + 1).toNatClampNeg v3_) → (
                      (vp_in ((1140 + (15 * (S7.1 (a + 1) 3))) + 2) 2091) ∧ (
                        ∀ S8 : ev_S, S8 = (ev_up S7 (a + 1) ((1140 + (15 * (S7.1 (a + 1) 3))) + 2).toNatClampNeg v4_) → (
                          ∀ S9 : ev_S, S9 = (ev_up S8 (a + 1) 11 ((S8.1 (a + 1) 11) + (v3_ + v4_))) → (
                            ∀ S10 : ev_S, S10 = (ev_up S9 (a + 1) 3 ((S8.1 (a + 1) 3) + 1)) → (
                              Q (.inl none) S10)))))))))) ∧
            (¬ ((S5.1 a 17) = 0) → (
              Q (.inl none) S5))))))))))))) : ev_E g m_X10_readsPass 6 0 33 [some (ev_o 10 a), none, none, none] [] S Q := by
  refine ev_aload_n (ev_o 10 a) dX10_readsPass_33 rfl rfl ?_
  refine ev_cV mv_X10_passes 3 0 10 [] [] dX10_readsPass_34 kw_1798 rfl (by decide) rfl (by decide) (by decide) (Nat.le_of_ble_eq_true rfl) hQ ?_ rfl
  rintro o S1 ⟨rfl, hQ⟩
  show ev_E g m_X10_readsPass 6 0 37 [some (ev_o 10 a), none, none, none] [] S1 Q
  refine ev_aload_n (ev_o 10 a) dX10_readsPass_37 rfl rfl ?_
  refine ev_iconst (1) dX10_readsPass_38 rfl ?_
  refine ev_bipush (9) dX10_readsPass_39 (by decide) ?_
  refine ev_cV mv_X10_number 4 0 10 [ev_i 1, ev_i 9] [] dX10_readsPass_41 kw_1802 rfl (by decide) rfl (by decide) (by decide) (Nat.le_of_ble_eq_true rfl) hQ ?_ rfl
  rintro o S2 ⟨v2_, rfl, hQ⟩
  show ev_E g m_X10_readsPass 6 0 44 [some (ev_o 10 a), none, none, none] [ev_i v2_] S2 Q
  refine ev_istore_n dX10_readsPass_44 (Nat.le_of_ble_eq_true rfl) (ev_hw rfl) ?_
  show ev_E g m_X10_readsPass 6 0 45 [some (ev_o 10 a), some (ev_i v2_), none, none] [] S2 Q
  refine ev_aload_n (ev_o 10 a) dX10_readsPass_45 rfl rfl ?_
  refine ev_iconst (0) dX10_readsPass_46 rfl ?_
  refine ev_bipush (9) dX10_readsPass_47 (by decide) ?_
  refine ev_cV mv_X10_number 4 0 10 [ev_i 0, ev_i 9] [] dX10_readsPass_49 kw_1802 rfl (by decide) rfl (by decide) (by decide) (Nat.le_of_ble_eq_true rfl) hQ ?_ rfl
  rintro o S3 ⟨v3_, rfl, hQ⟩
  show ev_E g m_X10_readsPass 6 0 52 [some (ev_o 10 a), some (ev_i v2_), none, none] [ev_i v3_] S3 Q
  refine ev_istore_n dX10_readsPass_52 (Nat.le_of_ble_eq_true rfl) (ev_hw rfl) ?_
  show ev_E g m_X10_readsPass 6 0 53 [some (ev_o 10 a), some (ev_i v2_), some (ev_i v3_), none] [] S3 Q
  refine ev_aload_n (ev_o 10 a) dX10_readsPass_53 rfl rfl ?_
  refine ev_iconst (0) dX10_readsPass_54 rfl ?_
  refine ev_bipush (9) dX10_readsPass_55 (by decide) ?_
  refine ev_cV mv_X10_number 4 0 10 [ev_i 0, ev_i 9] [] dX10_readsPass_57 kw_1802 rfl (by decide) rfl (by decide) (by decide) (Nat.le_of_ble_eq_true rfl) hQ ?_ rfl
  rintro o S4 ⟨v4_, rfl, hQ⟩
  show ev_E g m_X10_readsPass 6 0 60 [some (ev_o 10 a), some (ev_i v2_), some (ev_i v3_), none] [ev_i v4_] S4 Q
  refine ev_istore_n dX10_readsPass_60 (Nat.le_of_ble_eq_true rfl) (ev_hw rfl) ?_
  show ev_E g m_X10_readsPass 6 0 61 [some (ev_o 10 a), some (ev_i v2_), some (ev_i v3_), some (ev_i v4_)] [] S4 Q
  refine ev_aload_n (ev_o 10 a) dX10_readsPass_61 rfl rfl ?_
  refine ev_bipush (59) dX10_readsPass_62 (by decide) ?_
  refine ev_cV mv_X10_takesSign 4 0 10 [ev_i 59] [] dX10_readsPass_64 kw_1810 rfl (by decide) rfl (by decide) (by decide) (Nat.le_of_ble_eq_true rfl) hQ ?_ rfl
  rintro o S5 ⟨rfl, hQ⟩
  show ev_E g m_X10_readsPass 6 0 67 [some (ev_o 10 a), some (ev_i v2_), some (ev_i v3_), some (ev_i v4_)] [] S5 Q
  refine ev_aload_n (ev_o 10 a) dX10_readsPass_67 rfl rfl ?_
  refine gf_10_17 dX10_readsPass_68 kw_1870 ?_
  refine ev_if_eq 75 dX10_readsPass_71 (by decide) (fun c1 => ?_) (fun c1 => ?_)
  · replace hQ := hQ.1 c1
    refine ev_aload_n (ev_o 10 a) dX10_readsPass_75 rfl rfl ?_
    refine ev_aload_n (ev_o 10 a) dX10_readsPass_76 rfl rfl ?_
    refine gf_10_0 dX10_readsPass_77 kw_1853 ?_
    refine ev_iconst (3) dX10_readsPass_80 rfl ?_
    refine ev_iaload dX10_readsPass_81 (j_vin (by decide)) ?_
    refine ev_iconst (0) dX10_readsPass_82 rfl ?_
    refine ev_iload_n (v2_) dX10_readsPass_83 rfl ?_
    obtain ⟨h1, hQ⟩ := hQ
    refine ev_fVn mv_X10_putPass 1 10 [ev_i (S5.1 (a + 1) 3), ev_i 0, ev_i v2_] [] dX10_readsPass_84 kw_1844 rfl (by decide) rfl (by decide) (Nat.le_of_ble_eq_true rfl) (sp_X10_putPass a (S5.1 (a + 1) 3) 0 v2_ h1) ?_ rfl
    refine ev_sub hQ (fun S6 hS6 hQ => ?_)
    refine ev_E.goal (pc' := 87) (L' := [some (ev_o 10 a), some (ev_i v2_), some (ev_i v3_), some (ev_i v4_)]) (K' := []) (S' := S6) ?_ rfl rfl rfl hS6
    refine ev_aload_n (ev_o 10 a) dX10_readsPass_87 rfl rfl ?_
    refine ev_aload_n (ev_o 10 a) dX10_readsPass_88 rfl rfl ?_
    refine gf_10_0 dX10_readsPass_89 kw_1853 ?_
    refine ev_iconst (3) dX10_readsPass_92 rfl ?_
    refine ev_iaload dX10_readsPass_93 (j_vin (by decide)) ?_
    refine ev_iconst (1) dX10_readsPass_94 rfl ?_
    refine ev_iload_n (v3_) dX10_readsPass_95 rfl ?_
    obtain ⟨h2, hQ⟩ := hQ
    refine ev_fVn mv_X10_putPass 1 10 [ev_i (S6.1 (a + 1) 3), ev_i 1, ev_i v3_] [] dX10_readsPass_96 kw_1844 rfl (by decide) rfl (by decide) (Nat.le_of_ble_eq_true rfl) (sp_X10_putPass a (S6.1 (a + 1) 3) 1 v3_ h2) ?_ rfl
    refine ev_sub hQ (fun S7 hS7 hQ => ?_)
    refine ev_E.goal (pc' := 99) (L' := [some (ev_o 10 a), some (ev_i v2_), some (ev_i v3_), some (ev_i v4_)]) (K' := []) (S' := S7) ?_ rfl rfl rfl hS7
    refine ev_aload_n (ev_o 10 a) dX10_readsPass_99 rfl rfl ?_
    refine ev_aload_n (ev_o 10 a) dX10_readsPass_100 rfl rfl ?_
    refine gf_10_0 dX10_readsPass_101 kw_1853 ?_
    refine ev_iconst (3) dX10_readsPass_104 rfl ?_
    refine ev_iaload dX10_readsPass_105 (j_vin (by decide)) ?_
    refine ev_iconst (2) dX10_readsPass_106 rfl ?_
    refine ev_iload_n (v4_) dX10_readsPass_107 rfl ?_
    obtain ⟨h3, hQ⟩ := hQ
    refine ev_fVn mv_X10_putPass 1 10 [ev_i (S7.1 (a + 1) 3), ev_i 2, ev_i v4_] [] dX10_readsPass_108 kw_1844 rfl (by decide) rfl (by decide) (Nat.le_of_ble_eq_true rfl) (sp_X10_putPass a (S7.1 (a + 1) 3) 2 v4_ h3) ?_ rfl
    refine ev_sub hQ (fun S8 hS8 hQ => ?_)
    refine ev_E.goal (pc' := 111) (L' := [some (ev_o 10 a), some (ev_i v2_), some (ev_i v3_), some (ev_i v4_)]) (K' := []) (S' := S8) ?_ rfl rfl rfl hS8
    refine ev_aload_n (ev_o 10 a) dX10_readsPass_111 rfl rfl ?_
    refine gf_10_0 dX10_readsPass_112 kw_1853 ?_
    refine ev_bipush (11) dX10_readsPass_115 (by decide) ?_
    refine ev_dup2 dX10_readsPass_117 rfl rfl ?_
    refine ev_iaload dX10_readsPass_118 (j_vin (by decide)) ?_
    refine ev_iload_n (v3_) dX10_readsPass_119 rfl ?_
    refine ev_iload_n (v4_) dX10_readsPass_120 rfl ?_
    refine ev_iadd dX10_readsPass_121 ?_
    refine ev_iadd dX10_readsPass_122 ?_
    refine ev_iastore dX10_readsPass_123 (j_vin (by decide)) ?_
    refine ev_sub hQ (fun S9 hS9 hQ => ?_)
    refine ev_E.goal (pc' := 124) (L' := [some (ev_o 10 a), some (ev_i v2_), some (ev_i v3_), some (ev_i v4_)]) (K' := []) (S' := S9) ?_ rfl rfl rfl hS9
    refine ev_aload_n (ev_o 10 a) dX10_readsPass_124 rfl rfl ?_
    refine gf_10_0 dX10_readsPass_125 kw_1853 ?_
    refine ev_iconst (3) dX10_readsPass_128 rfl ?_
    refine ev_dup2 dX10_readsPass_129 rfl rfl ?_
    refine ev_iaload dX10_readsPass_130 (j_vin (by decide)) ?_
    refine ev_ke (j_rk hS9 (Or.inr (by decide))) ?_
    refine ev_iconst (1) dX10_readsPass_131 rfl ?_
    refine ev_iadd dX10_readsPass_132 ?_
    refine ev_iastore dX10_readsPass_133 (j_vin (by decide)) ?_
    refine ev_sub hQ (fun S10 hS10 hQ => ?_)
    refine ev_E.goal (pc' := 134) (L' := [some (ev_o 10 a), some (ev_i v2_), some (ev_i v3_), some (ev_i v4_)]) (K' := []) (S' := S10) ?_ rfl rfl rfl hS10
    exact ev_return dX10_readsPass_134 rfl hQ
  · replace hQ := hQ.2 c1
    exact ev_return dX10_readsPass_74 rfl hQ
set_option maxHeartbeats 4000000 in
set_option maxRecDepth 100000 in
theorem sg_X10_readsSnow_0 {g : ev_G} {S : ev_S} {Q : ev_O → ev_S → Prop} (a : Nat) (hQ : ev_Cv g m_X10_isWord 5 0 [ev_o 10 a, ev_x 1 31] S (fun o S1 => ∃ v1_ : Bool, o = .inl (some (ev_i (if v1_ = true then 1 else 0))) ∧ (
    (v1_ = true → (
      ev_Cv g m_X10_must 1 0 [ev_o 10 a, ev_i 1, ev_i 1] S1 (fun o S2 => ∃ v2_ : Bool, o = .inl (some (ev_i (if v2_ = true then 1 else 0))) ∧ (
        ev_Cv g m_X10_passes 3 0 [ev_o 10 a] S2 (fun o S3 => o = .inl none ∧ (
          ev_Cv g m_X10_number 4 0 [ev_o 10 a, ev_i 0, ev_i ((S3.1 (a + 1) 3) - 1)] S3 (fun o S4 => ∃ v4_ : Int32, o = .inl (some (ev_i v4_)) ∧ (
            ev_Cv g m_X10_number 4 0 [ev_o 10 a, ev_i 0, ev_i 11] S4 (fun o S5 => ∃ v5_ : Int32, o = .inl (some (ev_i v5_)) ∧ (
              ev_Cv g m_X10_number 4 0 [ev_o 10 a, ev_i 0, ev_i 9] S5 (fun o S6 => ∃ v6_ : Int32, o = .inl (some (ev_i v6_)) ∧ (
                ev_Cv g m_X10_takesSign 4 0 [ev_o 10 a, ev_i 59] S6 (fun o S7 => o = .inl none ∧ (
                  ((S7.1 a 17) = 0 → (
                    (vp_in ((1140 + (15 * v4_)) + (3 + v5_)) 2091) ∧ (
                      ∀ S8 : ev_S, S8 = (ev_up S7 (a + 1) ((1140 + (15 * v4_)) + (3 + v5_)).toNatClampNeg v6_) → (
                        Q (.inl none) S8)))) ∧
                  (¬ ((S7.1 a 17) = 0) → (
                    Q (.inl none) S7)))))))))))))))) ∧
    (¬ (v1_ = true) → (
      ev_Cv g m_X10_must 1 0 [ev_o 10 a, ev_i 0, ev_i 1] S1 (fun o S9 => ∃ v8_ : Bool, o = .inl (some (ev_i (if v8_ = true then 1 else 0))) ∧ (
        ev_Cv g m_X10_passes 3 0 [ev_o 10 a] S9 (fun o S10 => o = .inl none ∧ (
          ev_Cv g m_X10_number 4 0 [ev_o 10 a, ev_i 0, ev_i ((S10.1 (a + 1) 3) - 1)] S10 (fun o S11 => ∃ v10_ : Int32, o = .inl (some (ev_i v10_)) ∧ (
            ev_Cv g m_X10_number 4 0 [ev_o 10 a, ev_i 0, ev_i 11] S11 (fun o S12 => ∃ v11_ : Int32, o = .inl (some (ev_i v11_)) ∧ (
              ev_Cv g m_X10_number 4 0 [ev_o 10 a, ev_i 0, ev_i 9] S12 (fun o S13 => ∃ v12_ : Int32, o = .inl (some (ev_i v12_)) ∧ (
                ev_Cv g m_X10_takesSign 4 0 [ev_o 10 a, ev_i 59] S13 (fun o S14 => o = .inl none ∧ (
                  ((S14.1 a 17) = 0 → (
                    (vp_in ((1140 + (15 * v10_)) + (3 + v11_)) 2091) ∧ (
                      ∀ S15 : ev_S, S15 = (ev_up S14 (a + 1) ((1140 + (15 * v10_)) + (3 + v11_)).toNatClampNeg v12_) → (
                        Q (.inl none) S15)))) ∧
                  (¬ ((S14.1 a 17) = 0) → (
                    Q (.inl none) S14))))))))))))))))))) : ev_Cv g m_X10_readsSnow 6 0 [ev_o 10 a] S Q := by
  refine ev_enter (by decide) rfl rfl (Nat.le_of_ble_eq_true rfl) ?_
  show ev_E g m_X10_readsSnow 6 0 0 [some (ev_o 10 a), none, none, none] [] S Q
  refine ev_aload_n (ev_o 10 a) dX10_readsSnow_0 rfl rfl ?_
  refine ev_aload_n (ev_o 10 a) dX10_readsSnow_1 rfl rfl ?_
  refine ev_ldc "snow" 31 dX10_readsSnow_2 (List.mem_of_getElem? (i := 31) rfl) (by decide) ?_
  refine ev_cV mv_X10_isWord 5 0 10 [ev_x 1 31] [ev_o 10 a] dX10_readsSnow_4 kw_1790 rfl (by decide) rfl (by decide) (by decide) (Nat.le_of_ble_eq_true rfl) hQ ?_ rfl
  rintro o S1 ⟨v1_, rfl, hQ⟩
  show ev_E g m_X10_readsSnow 6 0 7 [some (ev_o 10 a), none, none, none] [ev_i (if v1_ = true then 1 else 0), ev_o 10 a] S1 Q
  by_cases c1 : v1_ = true
  · rw [if_pos c1]
    replace hQ := hQ.1 c1
    refine ev_iconst (1) dX10_readsSnow_7 rfl ?_
    refine ev_cV mv_X10_must 1 0 10 [ev_i 1, ev_i 1] [] dX10_readsSnow_8 kw_1794 rfl (by decide) rfl (by decide) (by decide) (Nat.le_of_ble_eq_true rfl) hQ ?_ rfl
    rintro o S2 ⟨v2_, rfl, hQ⟩
    show ev_E g m_X10_readsSnow 6 0 11 [some (ev_o 10 a), none, none, none] [ev_i (if v2_ = true then 1 else 0)] S2 Q
    refine ev_pop dX10_readsSnow_11 rfl ?_
    refine ev_aload_n (ev_o 10 a) dX10_readsSnow_12 rfl rfl ?_
    refine ev_cV mv_X10_passes 3 0 10 [] [] dX10_readsSnow_13 kw_1798 rfl (by decide) rfl (by decide) (by decide) (Nat.le_of_ble_eq_true rfl) hQ ?_ rfl
    rintro o S3 ⟨rfl, hQ⟩
    show ev_E g m_X10_readsSnow 6 0 16 [some (ev_o 10 a), none, none, none] [] S3 Q
    refine ev_aload_n (ev_o 10 a) dX10_readsSnow_16 rfl rfl ?_
    refine ev_iconst (0) dX10_readsSnow_17 rfl ?_
    refine ev_aload_n (ev_o 10 a) dX10_readsSnow_18 rfl rfl ?_
    refine gf_10_0 dX10_readsSnow_19 kw_1853 ?_
    refine ev_iconst (3) dX10_readsSnow_22 rfl ?_
    refine ev_iaload dX10_readsSnow_23 (j_vin (by decide)) ?_
    refine ev_iconst (1) dX10_readsSnow_24 rfl ?_
    refine ev_isub dX10_readsSnow_25 ?_
    refine ev_cV mv_X10_number 4 0 10 [ev_i 0, ev_i ((S3.1 (a + 1) 3) - 1)] [] dX10_readsSnow_26 kw_1802 rfl (by decide) rfl (by decide) (by decide) (Nat.le_of_ble_eq_true rfl) hQ ?_ rfl
    rintro o S4 ⟨v4_, rfl, hQ⟩
    show ev_E g m_X10_readsSnow 6 0 29 [some (ev_o 10 a), none, none, none] [ev_i v4_] S4 Q
    refine ev_istore_n dX10_readsSnow_29 (Nat.le_of_ble_eq_true rfl) (ev_hw rfl) ?_
    show ev_E g m_X10_readsSnow 6 0 30 [some (ev_o 10 a), some (ev_i v4_), none, none] [] S4 Q
    refine ev_aload_n (ev_o 10 a) dX10_readsSnow_30 rfl rfl ?_
    refine ev_iconst (0) dX10_readsSnow_31 rfl ?_
    refine ev_bipush (11) dX10_readsSnow_32 (by decide) ?_
    refine ev_cV mv_X10_number 4 0 10 [ev_i 0, ev_i 11] [] dX10_readsSnow_34 kw_1802 rfl (by decide) rfl (by decide) (by decide) (Nat.le_of_ble_eq_true rfl) hQ ?_ rfl
    rintro o S5 ⟨v5_, rfl, hQ⟩
    show ev_E g m_X10_readsSnow 6 0 37 [some (ev_o 10 a), some (ev_i v4_), none, none] [ev_i v5_] S5 Q
    refine ev_istore_n dX10_readsSnow_37 (Nat.le_of_ble_eq_true rfl) (ev_hw rfl) ?_
    show ev_E g m_X10_readsSnow 6 0 38 [some (ev_o 10 a), some (ev_i v4_), some (ev_i v5_), none] [] S5 Q
    refine ev_aload_n (ev_o 10 a) dX10_readsSnow_38 rfl rfl ?_
    refine ev_iconst (0) dX10_readsSnow_39 rfl ?_
    refine ev_bipush (9) dX10_readsSnow_40 (by decide) ?_
    refine ev_cV mv_X10_number 4 0 10 [ev_i 0, ev_i 9] [] dX10_readsSnow_42 kw_1802 rfl (by decide) rfl (by decide) (by decide) (Nat.le_of_ble_eq_true rfl) hQ ?_ rfl
    rintro o S6 ⟨v6_, rfl, hQ⟩
    show ev_E g m_X10_readsSnow 6 0 45 [some (ev_o 10 a), some (ev_i v4_), some (ev_i v5_), none] [ev_i v6_] S6 Q
    refine ev_istore_n dX10_readsSnow_45 (Nat.le_of_ble_eq_true rfl) (ev_hw rfl) ?_
    show ev_E g m_X10_readsSnow 6 0 46 [some (ev_o 10 a), some (ev_i v4_), some (ev_i v5_), some (ev_i v6_)] [] S6 Q
    refine ev_aload_n (ev_o 10 a) dX10_readsSnow_46 rfl rfl ?_
    refine ev_bipush (59) dX10_readsSnow_47 (by decide) ?_
    refine ev_cV mv_X10_takesSign 4 0 10 [ev_i 59] [] dX10_readsSnow_49 kw_1810 rfl (by decide) rfl (by decide) (by decide) (Nat.le_of_ble_eq_true rfl) hQ ?_ rfl
    rintro o S7 ⟨rfl, hQ⟩
    show ev_E g m_X10_readsSnow 6 0 52 [some (ev_o 10 a), some (ev_i v4_), some (ev_i v5_), some (ev_i v6_)] [] S7 Q
    refine ev_aload_n (ev_o 10 a) dX10_readsSnow_52 rfl rfl ?_
    refine gf_10_17 dX10_readsSnow_53 kw_1870 ?_
    refine ev_if_ne 68 dX10_readsSnow_56 (by decide) (fun c2 => ?_) (fun c2 => ?_)
    · replace hQ := hQ.2 c2
      exact ev_return dX10_readsSnow_68 rfl hQ
    · replace hQ := hQ.1 c2
      refine ev_aload_n (ev_o 10 a) dX10_readsSnow_59 rfl rfl ?_
      refine ev_iload_n (v4_) dX10_readsSnow_60 rfl ?_
      refine ev_iconst (3) dX10_readsSnow_61 rfl ?_
      refine ev_iload_n (v5_) dX10_readsSnow_62 rfl ?_
      refine ev_iadd dX10_readsSnow_63 ?_
      refine ev_iload_n (v6_) dX10_readsSnow_64 rfl ?_
      obtain ⟨h1, hQ⟩ := hQ
      refine ev_fVn mv_X10_putPass 1 10 [ev_i v4_, ev_i (3 + v5_), ev_i v6_] [] dX10_readsSnow_65 kw_1844 rfl (by decide) rfl (by decide) (Nat.le_of_ble_eq_true rfl) (sp_X10_putPass a v4_ (3 + v5_) v6_ h1) ?_ rfl
      refine ev_sub hQ (fun S8 hS8 hQ => ?_)
      refine ev_E.goal (pc' := 68) (L' := [some (ev_o 10 a), some (ev_i v4_), some (ev_i v5_), some (ev_i v6_)]) (K' := []) (S' := S8) ?_ rfl rfl rfl hS8
      exact ev_return dX10_readsSnow_68 rfl hQ
  · rw [if_neg c1]
    replace hQ := hQ.2 c1
    refine ev_iconst (1) dX10_readsSnow_7 rfl ?_
    refine ev_cV mv_X10_must 1 0 10 [ev_i 0, ev_i 1] [] dX10_readsSnow_8 kw_1794 rfl (by decide) rfl (by decide) (by decide) (Nat.le_of_ble_eq_true rfl) hQ ?_ rfl
    rintro o S9 ⟨v8_, rfl, hQ⟩
    show ev_E g m_X10_readsSnow 6 0 11 [some (ev_o 10 a), none, none, none] [ev_i (if v8_ = true then 1 else 0)] S9 Q
    refine ev_pop dX10_readsSnow_11 rfl ?_
    refine ev_aload_n (ev_o 10 a) dX10_readsSnow_12 rfl rfl ?_
    refine ev_cV mv_X10_passes 3 0 10 [] [] dX10_readsSnow_13 kw_1798 rfl (by decide) rfl (by decide) (by decide) (Nat.le_of_ble_eq_true rfl) hQ ?_ rfl
    rintro o S10 ⟨rfl, hQ⟩
    show ev_E g m_X10_readsSnow 6 0 16 [some (ev_o 10 a), none, none, none] [] S10 Q
    refine ev_aload_n (ev_o 10 a) dX10_readsSnow_16 rfl rfl ?_
    refine ev_iconst (0) dX10_readsSnow_17 rfl ?_
    refine ev_aload_n (ev_o 10 a) dX10_readsSnow_18 rfl rfl ?_
    refine gf_10_0 dX10_readsSnow_19 kw_1853 ?_
    refine ev_iconst (3) dX10_readsSnow_22 rfl ?_
    refine ev_iaload dX10_readsSnow_23 (j_vin (by decide)) ?_
    refine ev_iconst (1) dX10_readsSnow_24 rfl ?_
    refine ev_isub dX10_readsSnow_25 ?_
    refine ev_cV mv_X10_number 4 0 10 [ev_i 0, ev_i ((S10.1 (a + 1) 3) - 1)] [] dX10_readsSnow_26 kw_1802 rfl (by decide) rfl (by decide) (by decide) (Nat.le_of_ble_eq_true rfl) hQ ?_ rfl
    rintro o S11 ⟨v10_, rfl, hQ⟩
    show ev_E g m_X10_readsSnow 6 0 29 [some (ev_o 10 a), none, none, none] [ev_i v10_] S11 Q
    refine ev_istore_n dX10_readsSnow_29 (Nat.le_of_ble_eq_true rfl) (ev_hw rfl) ?_
    show ev_E g m_X10_readsSnow 6 0 30 [some (ev_o 10 a), some (ev_i v10_), none, none] [] S11 Q
    refine ev_aload_n (ev_o 10 a) dX10_readsSnow_30 rfl rfl ?_
    refine ev_iconst (0) dX10_readsSnow_31 rfl ?_
    refine ev_bipush (11) dX10_readsSnow_32 (by decide) ?_
    refine ev_cV mv_X10_number 4 0 10 [ev_i 0, ev_i 11] [] dX10_readsSnow_34 kw_1802 rfl (by decide) rfl (by decide) (by decide) (Nat.le_of_ble_eq_true rfl) hQ ?_ rfl
    rintro o S12 ⟨v11_, rfl, hQ⟩
    show ev_E g m_X10_readsSnow 6 0 37 [some (ev_o 10 a), some (ev_i v10_), none, none] [ev_i v11_] S12 Q
    refine ev_istore_n dX10_readsSnow_37 (Nat.le_of_ble_eq_true rfl) (ev_hw rfl) ?_
    show ev_E g m_X10_readsSnow 6 0 38 [some (ev_o 10 a), some (ev_i v10_), some (ev_i v11_), none] [] S12 Q
    refine ev_aload_n (ev_o 10 a) dX10_readsSnow_38 rfl rfl ?_
    refine ev_iconst (0) dX10_readsSnow_39 rfl ?_
    refine ev_bipush (9) dX10_readsSnow_40 (by decide) ?_
    refine ev_cV mv_X10_number 4 0 10 [ev_i 0, ev_i 9] [] dX10_readsSnow_42 kw_1802 rfl (by decide) rfl (by decide) (by decide) (Nat.le_of_ble_eq_true rfl) hQ ?_ rfl
    rintro o S13 ⟨v12_, rfl, hQ⟩
    show ev_E g m_X10_readsSnow 6 0 45 [some (ev_o 10 a), some (ev_i v10_), some (ev_i v11_), none] [ev_i v12_] S13 Q
    refine ev_istore_n dX10_readsSnow_45 (Nat.le_of_ble_eq_true rfl) (ev_hw rfl) ?_
    show ev_E g m_X10_readsSnow 6 0 46 [some (ev_o 10 a), some (ev_i v10_), some (ev_i v11_), some (ev_i v12_)] [] S13 Q
    refine ev_aload_n (ev_o 10 a) dX10_readsSnow_46 rfl rfl ?_
    refine ev_bipush (59) dX10_readsSnow_47 (by decide) ?_
    refine ev_cV mv_X10_takesSign 4 0 10 [ev_i 59] [] dX10_readsSnow_49 kw_1810 rfl (by decide) rfl (by decide) (by decide) (Nat.le_of_ble_eq_true rfl) hQ ?_ rfl
    rintro o S14 ⟨rfl, hQ⟩
    show ev_E g m_X10_readsSnow 6 0 52 [some (ev_o 10 a), some (ev_i v10_), some (ev_i v11_), some (ev_i v12_)] [] S14 Q
    refine ev_aload_n (ev_o 10 a) dX10_readsSnow_52 rfl rfl ?_
    refine gf_10_17 dX10_readsSnow_53 kw_1870 ?_
    refine ev_if_ne 68 dX10_readsSnow_56 (by decide) (fun c3 => ?_) (fun c3 => ?_)
    · replace hQ := hQ.2 c3
      exact ev_return dX10_readsSnow_68 rfl hQ
    · replace hQ := hQ.1 c3
      refine ev_aload_n (ev_o 10 a) dX10_readsSnow_59 rfl rfl ?_
      refine ev_iload_n (v10_) dX10_readsSnow_60 rfl ?_
      refine ev_iconst (3) dX10_readsSnow_61 rfl ?_
      refine ev_iload_n (v11_) dX10_readsSnow_62 rfl ?_
      refine ev_iadd dX10_readsSnow_63 ?_
      refine ev_iload_n (v12_) dX10_readsSnow_64 rfl ?_
      obtain ⟨h2, hQ⟩ := hQ
      refine ev_fVn mv_X10_putPass 1 10 [ev_i v10_, ev_i (3 + v11_), ev_i v12_] [] dX10_readsSnow_65 kw_1844 rfl (by decide) rfl (by decide) (Nat.le_of_ble_eq_true rfl) (sp_X10_putPass a v10_ (3 + v11_) v12_ h2) ?_ rfl
      refine ev_sub hQ (fun S15 hS15 hQ => ?_)
      refine ev_E.goal (pc' := 68) (L' := [some (ev_o 10 a), some (ev_i v10_), some (ev_i v11_), some (ev_i v12_)]) (K' := []) (S' := S15) ?_ rfl rfl rfl hS15
      exact ev_return dX10_readsSnow_68 rfl hQ
