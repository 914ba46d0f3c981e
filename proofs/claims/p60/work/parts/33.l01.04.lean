set_option maxHeartbeats 4000000 in
set_option maxRecDepth 100000 in
theorem sg_X11_copy_353 {g : ev_G} {S : ev_S} {Q : ev_O → ev_S → Prop} {B : Nat} (a : Nat) (w1 : Nat) (u2 : Int32) (hQ : (64 ≤ u2 → (
    Q (.inl (some (ev_o 11 w1))) S)) ∧
  (¬ (64 ≤ u2) → (
    (vp_in u2 64) ∧ (
      (vp_nar .boolean (S.1 (a + 30) u2.toNatClampNeg) = (S.1 (a + 30) u2.toNatClampNeg)) ∧ (
        ∀ S1 : ev_S, S1 = (ev_up S (w1 + 30) u2.toNatClampNeg (S.1 (a + 30) u2.toNatClampNeg)) → (
          (vp_nar .boolean (S1.1 (a + 31) u2.toNatClampNeg) = (S1.1 (a + 31) u2.toNatClampNeg)) ∧ (
            ∀ S2 : ev_S, S2 = (ev_up S1 (w1 + 31) u2.toNatClampNeg (S1.1 (a + 31) u2.toNatClampNeg)) → (
              ∀ S3 : ev_S, S3 = (ev_up S2 (w1 + 32) u2.toNatClampNeg (S2.1 (a + 32) u2.toNatClampNeg)) → (
                ∀ S4 : ev_S, S4 = (ev_up S3 (w1 + 33) u2.toNatClampNeg (S3.1 (a + 33) u2.toNatClampNeg)) → (
                  ∀ S5 : ev_S, S5 = (ev_up S4 (w1 + 34) u2.toNatClampNeg (S4.1 (a + 34) u2.toNatClampNeg)) → (
                    ∀ S6 : ev_S, S6 = (ev_up S5 (w1 + 35) u2.toNatClampNeg (S5.1 (a + 35) u2.toNatClampNeg)) → (
                      ev_E g m_X11_copy 2 B 353 [some (ev_o 11 a), some (ev_o 11 w1), some (ev_i (u2 + 1))] [] S6 Q)))))))))))) : ev_E g m_X11_copy 2 B 353 [some (ev_o 11 a), some (ev_o 11 w1), some (ev_i u2)] [] S Q := by
  refine ev_iload_n (u2) dX11_copy_353 rfl ?_
  refine ev_bipush (64) dX11_copy_354 (by decide) ?_
  refine ev_icmp_ge 437 dX11_copy_356 (by decide) (fun c1 => ?_) (fun c1 => ?_)
  · replace hQ := hQ.1 c1
    refine ev_aload_n (ev_o 11 w1) dX11_copy_437 rfl rfl ?_
    exact ev_areturn _ dX11_copy_438 rfl rfl (Or.inl ⟨_, rfl⟩) hQ
  · replace hQ := hQ.2 c1
    refine ev_aload_n (ev_o 11 w1) dX11_copy_359 rfl rfl ?_
    refine gf_11_26 dX11_copy_360 kw_843 ?_
    refine ev_iload_n (u2) dX11_copy_363 rfl ?_
    refine ev_aload_n (ev_o 11 a) dX11_copy_364 rfl rfl ?_
    refine gf_11_26 dX11_copy_365 kw_843 ?_
    refine ev_iload_n (u2) dX11_copy_368 rfl ?_
    obtain ⟨h1, hQ⟩ := hQ
    refine ev_baload (n := 64) (by decide) dX11_copy_369 h1 ?_
    obtain ⟨h2, hQ⟩ := hQ
    refine ev_bastore (n := 64) (by decide) dX11_copy_370 h1 h2 ?_
    refine ev_sub hQ (fun S1 hS1 hQ => ?_)
    refine ev_E.goal (pc' := 371) (L' := [some (ev_o 11 a), some (ev_o 11 w1), some (ev_i u2)]) (K' := []) (S' := S1) ?_ rfl rfl rfl hS1
    refine ev_aload_n (ev_o 11 w1) dX11_copy_371 rfl rfl ?_
    refine gf_11_27 dX11_copy_372 kw_845 ?_
    refine ev_iload_n (u2) dX11_copy_375 rfl ?_
    refine ev_aload_n (ev_o 11 a) dX11_copy_376 rfl rfl ?_
    refine gf_11_27 dX11_copy_377 kw_845 ?_
    refine ev_iload_n (u2) dX11_copy_380 rfl ?_
    refine ev_baload (n := 64) (by decide) dX11_copy_381 h1 ?_
    obtain ⟨h3, hQ⟩ := hQ
    refine ev_bastore (n := 64) (by decide) dX11_copy_382 h1 h3 ?_
    refine ev_sub hQ (fun S2 hS2 hQ => ?_)
    refine ev_E.goal (pc' := 383) (L' := [some (ev_o 11 a), some (ev_o 11 w1), some (ev_i u2)]) (K' := []) (S' := S2) ?_ rfl rfl rfl hS2
    refine ev_aload_n (ev_o 11 w1) dX11_copy_383 rfl rfl ?_
    refine gf_11_28 dX11_copy_384 kw_846 ?_
    refine ev_iload_n (u2) dX11_copy_387 rfl ?_
    refine ev_aload_n (ev_o 11 a) dX11_copy_388 rfl rfl ?_
    refine gf_11_28 dX11_copy_389 kw_846 ?_
    refine ev_iload_n (u2) dX11_copy_392 rfl ?_
    refine ev_iaload dX11_copy_393 h1 ?_
    refine ev_iastore dX11_copy_394 h1 ?_
    refine ev_sub hQ (fun S3 hS3 hQ => ?_)
    refine ev_E.goal (pc' := 395) (L' := [some (ev_o 11 a), some (ev_o 11 w1), some (ev_i u2)]) (K' := []) (S' := S3) ?_ rfl rfl rfl hS3
    refine ev_aload_n (ev_o 11 w1) dX11_copy_395 rfl rfl ?_
    refine gf_11_29 dX11_copy_396 kw_848 ?_
    refine ev_iload_n (u2) dX11_copy_399 rfl ?_
    refine ev_aload_n (ev_o 11 a) dX11_copy_400 rfl rfl ?_
    refine gf_11_29 dX11_copy_401 kw_848 ?_
    refine ev_iload_n (u2) dX11_copy_404 rfl ?_
    refine ev_iaload dX11_copy_405 h1 ?_
    refine ev_iastore dX11_copy_406 h1 ?_
    refine ev_sub hQ (fun S4 hS4 hQ => ?_)
    refine ev_E.goal (pc' := 407) (L' := [some (ev_o 11 a), some (ev_o 11 w1), some (ev_i u2)]) (K' := []) (S' := S4) ?_ rfl rfl rfl hS4
    refine ev_aload_n (ev_o 11 w1) dX11_copy_407 rfl rfl ?_
    refine gf_11_30 dX11_copy_408 kw_850 ?_
    refine ev_iload_n (u2) dX11_copy_411 rfl ?_
    refine ev_aload_n (ev_o 11 a) dX11_copy_412 rfl rfl ?_
    refine gf_11_30 dX11_copy_413 kw_850 ?_
    refine ev_iload_n (u2) dX11_copy_416 rfl ?_
    refine ev_iaload dX11_copy_417 h1 ?_
    refine ev_iastore dX11_copy_418 h1 ?_
    refine ev_sub hQ (fun S5 hS5 hQ => ?_)
    refine ev_E.goal (pc' := 419) (L' := [some (ev_o 11 a), some (ev_o 11 w1), some (ev_i u2)]) (K' := []) (S' := S5) ?_ rfl rfl rfl hS5
    refine ev_aload_n (ev_o 11 w1) dX11_copy_419 rfl rfl ?_
    refine gf_11_31 dX11_copy_420 kw_852 ?_
    refine ev_iload_n (u2) dX11_copy_423 rfl ?_
    refine ev_aload_n (ev_o 11 a) dX11_copy_424 rfl rfl ?_
    refine gf_11_31 dX11_copy_425 kw_852 ?_
    refine ev_iload_n (u2) dX11_copy_428 rfl ?_
    refine ev_iaload dX11_copy_429 h1 ?_
    refine ev_iastore dX11_copy_430 h1 ?_
    refine ev_sub hQ (fun S6 hS6 hQ => ?_)
    refine ev_E.goal (pc' := 431) (L' := [some (ev_o 11 a), some (ev_o 11 w1), some (ev_i u2)]) (K' := []) (S' := S6) ?_ rfl rfl rfl hS6
    refine ev_iinc u2 (1) dX11_copy_431 rfl (by decide) (ev_hw rfl) ?_
    show ev_E g m_X11_copy 2 B 434 [some (ev_o 11 a), some (ev_o 11 w1), some (ev_i (u2 + 1))] [] S6 Q
    refine ev_goto 353 dX11_copy_434 (by decide) ?_
    exact hQ
set_option maxHeartbeats 4000000 in
set_option maxRecDepth 100000 in
theorem sg_X11_arrival_0 {g : ev_G} {S : ev_S} {Q : ev_O → ev_S → Prop} {B : Nat} (a : Nat) (x0 : Int32) (hQ : ev_Cv g m_X11_copy 2 360 [ev_o 11 a] S (fun o S1 => ∃ v1_ : Nat, o = .inl (some (ev_o 11 v1_)) ∧ (
    ∀ S2 : ev_S, S2 = (ev_up S1 v1_ 32 (S1.1 a 32)) → (
      ev_E g m_X11_arrival 6 B 15 [none, some (ev_i x0), some (ev_o 11 v1_), some (ev_i 0)] [] S2 Q)))) : ev_Cv g m_X11_arrival 6 (B + 360) [ev_o 11 a, ev_i x0] S Q := by
  refine ev_enter (by decide) rfl rfl (Nat.le_of_ble_eq_true rfl) ?_
  show ev_E g m_X11_arrival 6 (B + 360) 0 [some (ev_o 11 a), some (ev_i x0), none, none] [] S Q
  refine ev_aload_n (ev_o 11 a) dX11_arrival_0 rfl rfl ?_
  refine ev_cV mv_X11_copy 2 360 11 [] [] dX11_arrival_1 kw_1493 rfl (by decide) rfl (by decide) (by omega) (Nat.le_of_ble_eq_true rfl) hQ ?_ rfl
  rintro o S1 ⟨v1_, rfl, hQ⟩
  show ev_E g m_X11_arrival 6 B 4 [some (ev_o 11 a), some (ev_i x0), none, none] [ev_o 11 v1_] S1 Q
  refine ev_astore_n dX11_arrival_4 rfl (Nat.le_of_ble_eq_true rfl) (ev_hw rfl) ?_
  show ev_E g m_X11_arrival 6 B 5 [some (ev_o 11 a), some (ev_i x0), some (ev_o 11 v1_), none] [] S1 Q
  refine ev_aload_n (ev_o 11 v1_) dX11_arrival_5 rfl rfl ?_
  refine ev_aload_n (ev_o 11 a) dX11_arrival_6 rfl rfl ?_
  refine gf_11_32 dX11_arrival_7 kw_854 ?_
  refine pf_11_32 dX11_arrival_10 kw_854 ?_
  refine ev_sub hQ (fun S2 hS2 hQ => ?_)
  refine ev_E.goal (pc' := 13) (L' := [some (ev_o 11 a), some (ev_i x0), some (ev_o 11 v1_), none]) (K' := []) (S' := S2) ?_ rfl rfl rfl hS2
  refine ev_iconst (0) dX11_arrival_13 rfl ?_
  refine ev_istore_n dX11_arrival_14 (Nat.le_of_ble_eq_true rfl) (ev_hw rfl) ?_
  show ev_E g m_X11_arrival 6 B 15 [some (ev_o 11 a), some (ev_i x0), some (ev_o 11 v1_), some (ev_i 0)] [] S2 Q
  refine ev_fgm [false, true, true, true] ?_
  exact hQ
set_option maxHeartbeats 4000000 in
set_option maxRecDepth 100000 in
theorem sg_X11_arrival_15 {g : ev_G} {S : ev_S} {Q : ev_O → ev_S → Prop} {B : Nat} (a : Nat) (u1 : Int32) (w2 : Nat) (u3 : Int32) (hQ : (400 ≤ u3 → (
    (vp_in u1 81) ∧ (
      (2 ≤ (S.1 (w2 + 24) u1.toNatClampNeg) → (
        Q (.inl (some (ev_i (S.1 (w2 + 28) u1.toNatClampNeg)))) S)) ∧
      (¬ (2 ≤ (S.1 (w2 + 24) u1.toNatClampNeg)) → (
        Q (.inl (some (ev_i (-1)))) S))))) ∧
  (¬ (400 ≤ u3) → (
    (vp_in u1 81) ∧ (
      (2 ≤ (S.1 (w2 + 24) u1.toNatClampNeg) → (
        Q (.inl (some (ev_i (S.1 (w2 + 28) u1.toNatClampNeg)))) S)) ∧
      (¬ (2 ≤ (S.1 (w2 + 24) u1.toNatClampNeg)) → (
        ev_Cv g m_X11_passes 5 0 [ev_o 11 w2] S (fun o S1 => o = .inl none ∧ (
          ev_E g m_X11_arrival 6 B 15 [none, some (ev_i u1), some (ev_o 11 w2), some (ev_i (u3 + 1))] [] S1 Q)))))))) : ev_E g m_X11_arrival 6 B 15 [none, some (ev_i u1), some (ev_o 11 w2), some (ev_i u3)] [] S Q := by
  refine ev_iload_n (u3) dX11_arrival_15 rfl ?_
  refine ev_sipush (400) dX11_arrival_16 (by decide) ?_
  refine ev_icmp_ge 42 dX11_arrival_19 (by decide) (fun c1 => ?_) (fun c1 => ?_)
  · replace hQ := hQ.1 c1
    refine ev_aload_n (ev_o 11 w2) dX11_arrival_42 rfl rfl ?_
    refine gf_11_20 dX11_arrival_43 kw_835 ?_
    refine ev_iload_n (u1) dX11_arrival_46 rfl ?_
    obtain ⟨h1, hQ⟩ := hQ
    refine ev_iaload dX11_arrival_47 h1 ?_
    refine ev_iconst (2) dX11_arrival_48 rfl ?_
    refine ev_icmp_ge 56 dX11_arrival_49 (by decide) (fun c2 => ?_) (fun c2 => ?_)
    · replace hQ := hQ.1 c2
      refine ev_aload_n (ev_o 11 w2) dX11_arrival_56 rfl rfl ?_
      refine gf_11_24 dX11_arrival_57 kw_840 ?_
      refine ev_iload_n (u1) dX11_arrival_60 rfl ?_
      refine ev_iaload dX11_arrival_61 h1 ?_
      exact ev_ireturn .int dX11_arrival_62 rfl rfl hQ
    · replace hQ := hQ.2 c2
      refine ev_iconst (-1) dX11_arrival_52 rfl ?_
      refine ev_goto 62 dX11_arrival_53 (by decide) ?_
      exact ev_ireturn .int dX11_arrival_62 rfl rfl hQ
  · replace hQ := hQ.2 c1
    refine ev_aload_n (ev_o 11 w2) dX11_arrival_22 rfl rfl ?_
    refine gf_11_20 dX11_arrival_23 kw_835 ?_
    refine ev_iload_n (u1) dX11_arrival_26 rfl ?_
    obtain ⟨h2, hQ⟩ := hQ
    refine ev_iaload dX11_arrival_27 h2 ?_
    refine ev_iconst (2) dX11_arrival_28 rfl ?_
    refine ev_icmp_ge 42 dX11_arrival_29 (by decide) (fun c3 => ?_) (fun c3 => ?_)
    · replace hQ := hQ.1 c3
      refine ev_aload_n (ev_o 11 w2) dX11_arrival_42 rfl rfl ?_
      refine gf_11_20 dX11_arrival_43 kw_835 ?_
      refine ev_iload_n (u1) dX11_arrival_46 rfl ?_
      refine ev_iaload dX11_arrival_47 h2 ?_
      refine ev_iconst (2) dX11_arrival_48 rfl ?_
      refine ev_icmp_ge 56 dX11_arrival_49 (by decide) (fun _ => ?_) (fun h9 => absurd c3 h9)
      refine ev_aload_n (ev_o 11 w2) dX11_arrival_56 rfl rfl ?_
      refine gf_11_24 dX11_arrival_57 kw_840 ?_
      refine ev_iload_n (u1) dX11_arrival_60 rfl ?_
      refine ev_iaload dX11_arrival_61 h2 ?_
      exact ev_ireturn .int dX11_arrival_62 rfl rfl hQ
    · replace hQ := hQ.2 c3
      refine ev_aload_n (ev_o 11 w2) dX11_arrival_32 rfl rfl ?_
      refine ev_cV mv_X11_passes 5 0 11 [] [] dX11_arrival_33 kw_1494 rfl (by decide) rfl (by decide) (by omega) (Nat.le_of_ble_eq_true rfl) hQ ?_ rfl
      rintro o S1 ⟨rfl, hQ⟩
      show ev_E g m_X11_arrival 6 B 36 [none, some (ev_i u1), some (ev_o 11 w2), some (ev_i u3)] [] S1 Q
      refine ev_iinc u3 (1) dX11_arrival_36 rfl (by decide) (ev_hw rfl) ?_
      show ev_E g m_X11_arrival 6 B 39 [none, some (ev_i u1), some (ev_o 11 w2), some (ev_i (u3 + 1))] [] S1 Q
      refine ev_goto 15 dX11_arrival_39 (by decide) ?_
      exact hQ
set_option maxHeartbeats 4000000 in
set_option maxRecDepth 100000 in
theorem sg_X11_fastest_0 {g : ev_G} {S : ev_S} {Q : ev_O → ev_S → Prop} {B : Nat} (a : Nat) (x0 : Int32) (hQ : ev_E g m_X11_fastest 7 B 12 [some (ev_o 11 a), some (ev_i x0), some (ev_i (-1)), some (ev_i 0), some (ev_i ((S.1 a 3) - 1)), none, none] [] S Q) : ev_Cv g m_X11_fastest 7 B [ev_o 11 a, ev_i x0] S Q := by
  refine ev_enter (by decide) rfl rfl (Nat.le_of_ble_eq_true rfl) ?_
  show ev_E g m_X11_fastest 7 B 0 [some (ev_o 11 a), some (ev_i x0), none, none, none, none, none] [] S Q
  refine ev_iconst (-1) dX11_fastest_0 rfl ?_
  refine ev_istore_n dX11_fastest_1 (Nat.le_of_ble_eq_true rfl) (ev_hw rfl) ?_
  show ev_E g m_X11_fastest 7 B 2 [some (ev_o 11 a), some (ev_i x0), some (ev_i (-1)), none, none, none, none] [] S Q
  refine ev_iconst (0) dX11_fastest_2 rfl ?_
  refine ev_istore_n dX11_fastest_3 (Nat.le_of_ble_eq_true rfl) (ev_hw rfl) ?_
  show ev_E g m_X11_fastest 7 B 4 [some (ev_o 11 a), some (ev_i x0), some (ev_i (-1)), some (ev_i 0), none, none, none] [] S Q
  refine ev_aload_n (ev_o 11 a) dX11_fastest_4 rfl rfl ?_
  refine gf_11_3 dX11_fastest_5 kw_803 ?_
  refine ev_iconst (1) dX11_fastest_8 rfl ?_
  refine ev_isub dX11_fastest_9 ?_
  refine ev_istore dX11_fastest_10 (Nat.le_of_ble_eq_true rfl) (ev_hw rfl) ?_
  show ev_E g m_X11_fastest 7 B 12 [some (ev_o 11 a), some (ev_i x0), some (ev_i (-1)), some (ev_i 0), some (ev_i ((S.1 a 3) - 1)), none, none] [] S Q
  exact hQ
