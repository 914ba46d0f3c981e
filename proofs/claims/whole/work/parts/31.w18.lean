set_option maxHeartbeats 4000000 in
set_option maxRecDepth 100000 in
theorem sg_L_law_2229 {g : ev_G} {S : ev_S} {Q : ev_O → ev_S → Prop} {B : Nat} (k0 a b o1 o2 : Nat) (u5 : Int32) (hQ : (vp_in (u5 + 1) (ev_sl g)) ∧ (
    ev_Cv g m_L_daysUntilTurn 7 1 [ev_o 9 a, ev_i (ev_sx g (u5 + 1).toNatClampNeg), ev_o 21 o1] S (fun o S1 => ∃ v1_ : Int32, o = .inl (some (ev_i v1_)) ∧ (
      ev_Cv g m_X10_daysUntilTurn 9 0 [ev_o 10 b, ev_i (ev_sx g (u5 + 1).toNatClampNeg)] S1 (fun o S2 => ∃ v2_ : Int32, o = .inl (some (ev_i v2_)) ∧ (
        ((S2.1 b 7) = v1_ → (
          (v1_ = 0 → (
            ((lg_cmp S2.2.1 v2_.toInt64) = 0 → (
              ev_E g m_L_law 52 (B + 1) 3142 [some (ev_x 0 k0), some (ev_o 9 a), some (ev_o 10 b), some (ev_o 21 o1), some (ev_o 22 o2), some (ev_i u5), none, none, none, none] [] S2 Q)) ∧
            (¬ ((lg_cmp S2.2.1 v2_.toInt64) = 0) → (
              Q (.inl (some (ev_i 0))) S2)))) ∧
          (¬ (v1_ = 0) → (
            ev_E g m_L_law 52 (B + 1) 3142 [some (ev_x 0 k0), some (ev_o 9 a), some (ev_o 10 b), some (ev_o 21 o1), some (ev_o 22 o2), some (ev_i u5), none, none, none, none] [] S2 Q)))) ∧
        (¬ ((S2.1 b 7) = v1_) → (
          Q (.inl (some (ev_i 0))) S2)))))))) : ev_E g m_L_law 52 (B + 2) 2229 [some (ev_x 0 k0), some (ev_o 9 a), some (ev_o 10 b), some (ev_o 21 o1), some (ev_o 22 o2), some (ev_i u5), none, none, none, none] [] S Q := by
  refine ev_aload_n (ev_o 9 a) dL_law_2229 rfl rfl ?_
  refine ev_aload_n (ev_x 0 k0) dL_law_2230 rfl rfl ?_
  refine ev_iload (u5) dL_law_2231 rfl ?_
  refine ev_iconst (1) dL_law_2233 rfl ?_
  refine ev_iadd dL_law_2234 ?_
  obtain ⟨h1, hQ⟩ := hQ
  refine ev_sld dL_law_2235 h1 ?_
  refine ev_aload_n (ev_o 21 o1) dL_law_2236 rfl rfl ?_
  refine ev_cH mh_L_daysUntilTurn 7 1 [ev_o 9 a, ev_i (ev_sx g (u5 + 1).toNatClampNeg), ev_o 21 o1] [] dL_law_2237 kw_1607 rfl (by decide) (by omega) (Nat.le_of_ble_eq_true rfl) hQ ?_ rfl
  rintro o S1 ⟨v1_, rfl, hQ⟩
  show ev_E g m_L_law 52 (B + 1) 2240 [some (ev_x 0 k0), some (ev_o 9 a), some (ev_o 10 b), some (ev_o 21 o1), some (ev_o 22 o2), some (ev_i u5), none, none, none, none] [ev_i v1_] S1 Q
  refine ev_istore dL_law_2240 (Nat.le_of_ble_eq_true rfl) (ev_hw rfl) ?_
  show ev_E g m_L_law 52 (B + 1) 2242 [some (ev_x 0 k0), some (ev_o 9 a), some (ev_o 10 b), some (ev_o 21 o1), some (ev_o 22 o2), some (ev_i u5), some (ev_i v1_), none, none, none] [] S1 Q
  refine ev_aload_n (ev_o 10 b) dL_law_2242 rfl rfl ?_
  refine ev_aload_n (ev_x 0 k0) dL_law_2243 rfl rfl ?_
  refine ev_iload (u5) dL_law_2244 rfl ?_
  refine ev_iconst (1) dL_law_2246 rfl ?_
  refine ev_iadd dL_law_2247 ?_
  refine ev_sld dL_law_2248 h1 ?_
  refine ev_cV mv_X10_daysUntilTurn 9 0 10 [ev_i (ev_sx g (u5 + 1).toNatClampNeg)] [] dL_law_2249 kw_2361 rfl (by decide) rfl (by decide) (by omega) (Nat.le_of_ble_eq_true rfl) hQ ?_ rfl
  rintro o S2 ⟨v2_, rfl, hQ⟩
  show ev_E g m_L_law 52 (B + 1) 2252 [some (ev_x 0 k0), some (ev_o 9 a), some (ev_o 10 b), some (ev_o 21 o1), some (ev_o 22 o2), some (ev_i u5), some (ev_i v1_), none, none, none] [ev_i v2_] S2 Q
  refine ev_istore dL_law_2252 (Nat.le_of_ble_eq_true rfl) (ev_hw rfl) ?_
  show ev_E g m_L_law 52 (B + 1) 2254 [some (ev_x 0 k0), some (ev_o 9 a), some (ev_o 10 b), some (ev_o 21 o1), some (ev_o 22 o2), some (ev_i u5), some (ev_i v1_), some (ev_i v2_), none, none] [] S2 Q
  refine ev_aload_n (ev_o 10 b) dL_law_2254 rfl rfl ?_
  refine ev_fV mv_X10_thrown 1 10 [] [] dL_law_2255 kw_1939 rfl (by decide) rfl (by decide) (Nat.le_of_ble_eq_true rfl) (sp_X10_thrown b) ?_ rfl
  refine ev_iload (v1_) dL_law_2258 rfl ?_
  refine ev_icmp_eq 2265 dL_law_2260 (by decide) (fun c1 => ?_) (fun c1 => ?_)
  · replace hQ := hQ.1 c1
    refine ev_iload (v1_) dL_law_2265 rfl ?_
    refine ev_if_ne 2282 dL_law_2267 (by decide) (fun c2 => ?_) (fun c2 => ?_)
    · replace hQ := hQ.2 c2
      refine ev_goto 3142 dL_law_2282 (by decide) ?_
      refine ev_fgm [true, true, true, true, true, true, false, false, false, false] ?_
      exact hQ
    · replace hQ := hQ.1 c2
      refine ev_aload_n (ev_o 21 o1) dL_law_2270 rfl rfl ?_
      refine ev_iconst (0) dL_law_2271 rfl ?_
      refine ev_laload dL_law_2272 ?_
      refine ev_iload (v2_) dL_law_2273 rfl ?_
      refine ev_i2l dL_law_2275 ?_
      refine ev_lcmp dL_law_2276 ?_
      refine ev_if_eq 2282 dL_law_2277 (by decide) (fun c3 => ?_) (fun c3 => ?_)
      · replace hQ := hQ.1 c3
        refine ev_goto 3142 dL_law_2282 (by decide) ?_
        refine ev_fgm [true, true, true, true, true, true, false, false, false, false] ?_
        exact hQ
      · replace hQ := hQ.2 c3
        refine ev_iconst (0) dL_law_2280 rfl ?_
        exact ev_ireturn .boolean dL_law_2281 rfl rfl hQ
  · replace hQ := hQ.2 c1
    refine ev_iconst (0) dL_law_2263 rfl ?_
    exact ev_ireturn .boolean dL_law_2264 rfl rfl hQ
set_option maxHeartbeats 4000000 in
set_option maxRecDepth 100000 in
theorem sg_L_law_2285 {g : ev_G} {S : ev_S} {Q : ev_O → ev_S → Prop} {B : Nat} (k0 a b o1 o2 : Nat) (u5 : Int32) (hQ : ev_Cv g m_X9_daysUntilEqual 6 0 [ev_o 9 a] S (fun o S1 => ∃ v1_ : Int32, o = .inl (some (ev_i v1_)) ∧ (
    ev_Cv g m_X10_daysUntilEqual 9 0 [ev_o 10 b] S1 (fun o S2 => ∃ v2_ : Int32, o = .inl (some (ev_i v2_)) ∧ (
      (v1_ = v2_ → (
        ev_E g m_L_law 52 (B + 2) 3142 [some (ev_x 0 k0), some (ev_o 9 a), some (ev_o 10 b), some (ev_o 21 o1), some (ev_o 22 o2), some (ev_i u5), none, none, none, none] [] S2 Q)) ∧
      (¬ (v1_ = v2_) → (
        Q (.inl (some (ev_i 0))) S2))))))) : ev_E g m_L_law 52 (B + 2) 2285 [some (ev_x 0 k0), some (ev_o 9 a), some (ev_o 10 b), some (ev_o 21 o1), some (ev_o 22 o2), some (ev_i u5), none, none, none, none] [] S Q := by
  refine ev_aload_n (ev_o 9 a) dL_law_2285 rfl rfl ?_
  refine ev_cV mv_X9_daysUntilEqual 6 0 9 [] [] dL_law_2286 kw_1192 rfl (by decide) rfl (by decide) (by omega) (Nat.le_of_ble_eq_true rfl) hQ ?_ rfl
  rintro o S1 ⟨v1_, rfl, hQ⟩
  show ev_E g m_L_law 52 (B + 2) 2289 [some (ev_x 0 k0), some (ev_o 9 a), some (ev_o 10 b), some (ev_o 21 o1), some (ev_o 22 o2), some (ev_i u5), none, none, none, none] [ev_i v1_] S1 Q
  refine ev_aload_n (ev_o 10 b) dL_law_2289 rfl rfl ?_
  refine ev_cV mv_X10_daysUntilEqual 9 0 10 [] [ev_i v1_] dL_law_2290 kw_2365 rfl (by decide) rfl (by decide) (by omega) (Nat.le_of_ble_eq_true rfl) hQ ?_ rfl
  rintro o S2 ⟨v2_, rfl, hQ⟩
  show ev_E g m_L_law 52 (B + 2) 2293 [some (ev_x 0 k0), some (ev_o 9 a), some (ev_o 10 b), some (ev_o 21 o1), some (ev_o 22 o2), some (ev_i u5), none, none, none, none] [ev_i v2_, ev_i v1_] S2 Q
  refine ev_icmp_eq 3142 dL_law_2293 (by decide) (fun c1 => ?_) (fun c1 => ?_)
  · replace hQ := hQ.1 c1
    exact hQ
  · replace hQ := hQ.2 c1
    refine ev_iconst (0) dL_law_2296 rfl ?_
    exact ev_ireturn .boolean dL_law_2297 rfl rfl hQ
set_option maxHeartbeats 4000000 in
set_option maxRecDepth 100000 in
theorem sg_L_law_2298 {g : ev_G} {S : ev_S} {Q : ev_O → ev_S → Prop} {B : Nat} (k0 a b o1 o2 : Nat) (u5 : Int32) (hQ : (vp_in (u5 + 1) (ev_sl g)) ∧ (
    ev_Cv g m_L_fastestPass 6 1 [ev_o 9 a, ev_i (ev_sx g (u5 + 1).toNatClampNeg), ev_o 21 o1] S (fun o S1 => ∃ v1_ : Int32, o = .inl (some (ev_i v1_)) ∧ (
      ev_Cv g m_X10_fastestPass 11 0 [ev_o 10 b, ev_i (ev_sx g (u5 + 1).toNatClampNeg)] S1 (fun o S2 => ∃ v2_ : Int32, o = .inl (some (ev_i v2_)) ∧ (
        ((S2.1 b 7) = v1_ → (
          (v1_ = 0 → (
            ((lg_cmp S2.2.1 v2_.toInt64) = 0 → (
              ev_E g m_L_law 52 (B + 1) 3142 [some (ev_x 0 k0), some (ev_o 9 a), some (ev_o 10 b), some (ev_o 21 o1), some (ev_o 22 o2), some (ev_i u5), none, none, none, none] [] S2 Q)) ∧
            (¬ ((lg_cmp S2.2.1 v2_.toInt64) = 0) → (
              Q (.inl (some (ev_i 0))) S2)))) ∧
          (¬ (v1_ = 0) → (
            ev_E g m_L_law 52 (B + 1) 3142 [some (ev_x 0 k0), some (ev_o 9 a), some (ev_o 10 b), some (ev_o 21 o1), some (ev_o 22 o2), some (ev_i u5), none, none, none, none] [] S2 Q)))) ∧
        (¬ ((S2.1 b 7) = v1_) → (
          Q (.inl (some (ev_i 0))) S2)))))))) : ev_E g m_L_law 52 (B + 2) 2298 [some (ev_x 0 k0), some (ev_o 9 a), some (ev_o 10 b), some (ev_o 21 o1), some (ev_o 22 o2), some (ev_i u5), none, none, none, none] [] S Q := by
  refine ev_aload_n (ev_o 9 a) dL_law_2298 rfl rfl ?_
  refine ev_aload_n (ev_x 0 k0) dL_law_2299 rfl rfl ?_
  refine ev_iload (u5) dL_law_2300 rfl ?_
  refine ev_iconst (1) dL_law_2302 rfl ?_
  refine ev_iadd dL_law_2303 ?_
  obtain ⟨h1, hQ⟩ := hQ
  refine ev_sld dL_law_2304 h1 ?_
  refine ev_aload_n (ev_o 21 o1) dL_law_2305 rfl rfl ?_
  refine ev_cH mh_L_fastestPass 6 1 [ev_o 9 a, ev_i (ev_sx g (u5 + 1).toNatClampNeg), ev_o 21 o1] [] dL_law_2306 kw_1614 rfl (by decide) (by omega) (Nat.le_of_ble_eq_true rfl) hQ ?_ rfl
  rintro o S1 ⟨v1_, rfl, hQ⟩
  show ev_E g m_L_law 52 (B + 1) 2309 [some (ev_x 0 k0), some (ev_o 9 a), some (ev_o 10 b), some (ev_o 21 o1), some (ev_o 22 o2), some (ev_i u5), none, none, none, none] [ev_i v1_] S1 Q
  refine ev_istore dL_law_2309 (Nat.le_of_ble_eq_true rfl) (ev_hw rfl) ?_
  show ev_E g m_L_law 52 (B + 1) 2311 [some (ev_x 0 k0), some (ev_o 9 a), some (ev_o 10 b), some (ev_o 21 o1), some (ev_o 22 o2), some (ev_i u5), some (ev_i v1_), none, none, none] [] S1 Q
  refine ev_aload_n (ev_o 10 b) dL_law_2311 rfl rfl ?_
  refine ev_aload_n (ev_x 0 k0) dL_law_2312 rfl rfl ?_
  refine ev_iload (u5) dL_law_2313 rfl ?_
  refine ev_iconst (1) dL_law_2315 rfl ?_
  refine ev_iadd dL_law_2316 ?_
  refine ev_sld dL_law_2317 h1 ?_
  refine ev_cV mv_X10_fastestPass 11 0 10 [ev_i (ev_sx g (u5 + 1).toNatClampNeg)] [] dL_law_2318 kw_2369 rfl (by decide) rfl (by decide) (by omega) (Nat.le_of_ble_eq_true rfl) hQ ?_ rfl
  rintro o S2 ⟨v2_, rfl, hQ⟩
  show ev_E g m_L_law 52 (B + 1) 2321 [some (ev_x 0 k0), some (ev_o 9 a), some (ev_o 10 b), some (ev_o 21 o1), some (ev_o 22 o2), some (ev_i u5), some (ev_i v1_), none, none, none] [ev_i v2_] S2 Q
  refine ev_istore dL_law_2321 (Nat.le_of_ble_eq_true rfl) (ev_hw rfl) ?_
  show ev_E g m_L_law 52 (B + 1) 2323 [some (ev_x 0 k0), some (ev_o 9 a), some (ev_o 10 b), some (ev_o 21 o1), some (ev_o 22 o2), some (ev_i u5), some (ev_i v1_), some (ev_i v2_), none, none] [] S2 Q
  refine ev_aload_n (ev_o 10 b) dL_law_2323 rfl rfl ?_
  refine ev_fV mv_X10_thrown 1 10 [] [] dL_law_2324 kw_1939 rfl (by decide) rfl (by decide) (Nat.le_of_ble_eq_true rfl) (sp_X10_thrown b) ?_ rfl
  refine ev_iload (v1_) dL_law_2327 rfl ?_
  refine ev_icmp_eq 2334 dL_law_2329 (by decide) (fun c1 => ?_) (fun c1 => ?_)
  · replace hQ := hQ.1 c1
    refine ev_iload (v1_) dL_law_2334 rfl ?_
    refine ev_if_ne 2351 dL_law_2336 (by decide) (fun c2 => ?_) (fun c2 => ?_)
    · replace hQ := hQ.2 c2
      refine ev_goto 3142 dL_law_2351 (by decide) ?_
      refine ev_fgm [true, true, true, true, true, true, false, false, false, false] ?_
      exact hQ
    · replace hQ := hQ.1 c2
      refine ev_aload_n (ev_o 21 o1) dL_law_2339 rfl rfl ?_
      refine ev_iconst (0) dL_law_2340 rfl ?_
      refine ev_laload dL_law_2341 ?_
      refine ev_iload (v2_) dL_law_2342 rfl ?_
      refine ev_i2l dL_law_2344 ?_
      refine ev_lcmp dL_law_2345 ?_
      refine ev_if_eq 2351 dL_law_2346 (by decide) (fun c3 => ?_) (fun c3 => ?_)
      · replace hQ := hQ.1 c3
        refine ev_goto 3142 dL_law_2351 (by decide) ?_
        refine ev_fgm [true, true, true, true, true, true, false, false, false, false] ?_
        exact hQ
      · replace hQ := hQ.2 c3
        refine ev_iconst (0) dL_law_2349 rfl ?_
        exact ev_ireturn .boolean dL_law_2350 rfl rfl hQ
  · replace hQ := hQ.2 c1
    refine ev_iconst (0) dL_law_2332 rfl ?_
    exact ev_ireturn .boolean dL_law_2333 rfl rfl hQ
set_option maxHeartbeats 4000000 in
set_option maxRecDepth 100000 in
theorem sg_L_law_2354 {g : ev_G} {S : ev_S} {Q : ev_O → ev_S → Prop} {B : Nat} (k0 a b o1 o2 : Nat) (u5 : Int32) (hQ : (vp_in (u5 + 1) (ev_sl g)) ∧ (
    (vp_in (u5 + 2) (ev_sl g)) ∧ (
      (vp_in (u5 + 3) (ev_sl g)) ∧ (
        (vp_in (u5 + 4) (ev_sl g)) ∧ (
          ev_Cv g m_L_move 7 1 [ev_o 9 a, ev_i (ev_sx g (u5 + 1).toNatClampNeg), ev_i (ev_sx g (u5 + 2).toNatClampNeg), ev_i (ev_sx g (u5 + 3).toNatClampNeg), ev_i (ev_sx g (u5 + 4).toNatClampNeg), ev_o 21 o1] S (fun o S1 => ∃ v1_ : Int32, o = .inl (some (ev_i v1_)) ∧ (
            ev_Cv g m_X10_move 6 0 [ev_o 10 b, ev_i (ev_sx g (u5 + 1).toNatClampNeg), ev_i (ev_sx g (u5 + 2).toNatClampNeg), ev_i (ev_sx g (u5 + 3).toNatClampNeg), ev_i (ev_sx g (u5 + 4).toNatClampNeg)] S1 (fun o S2 => ∃ v2_ : Int32, o = .inl (some (ev_i v2_)) ∧ (
              ((S2.1 b 7) = v1_ → (
                (v1_ = 0 → (
                  ((lg_cmp S2.2.1 v2_.toInt64) = 0 → (
                    ev_E g m_L_law 52 (B + 1) 3142 [some (ev_x 0 k0), some (ev_o 9 a), some (ev_o 10 b), some (ev_o 21 o1), some (ev_o 22 o2), some (ev_i u5), none, none, none, none] [] S2 Q)) ∧
                  (¬ ((lg_cmp S2.2.1 v2_.toInt64) = 0) → (
                    Q (.inl (some (ev_i 0))) S2)))) ∧
                (¬ (v1_ = 0) → (
                  ev_E g m_L_law 52 (B + 1) 3142 [some (ev_x 0 k0), some (ev_o 9 a), some (ev_o 10 b), some (ev_o 21 o1), some (ev_o 22 o2), some (ev_i u5), none, none, none, none] [] S2 Q)))) ∧
              (¬ ((S2.1 b 7) = v1_) → (
                Q (.inl (some (ev_i 0))) S2))))))))))) : ev_E g m_L_law 52 (B + 2) 2354 [some (ev_x 0 k0), some (ev_o 9 a), some (ev_o 10 b), some (ev_o 21 o1), some (ev_o 22 o2), some (ev_i u5), none, none, none, none] [] S Q := by
  refine ev_aload_n (ev_o 9 a) dL_law_2354 rfl rfl ?_
  refine ev_aload_n (ev_x 0 k0) dL_law_2355 rfl rfl ?_
  refine ev_iload (u5) dL_law_2356 rfl ?_
  refine ev_iconst (1) dL_law_2358 rfl ?_
  refine ev_iadd dL_law_2359 ?_
  obtain ⟨h1, hQ⟩ := hQ
  refine ev_sld dL_law_2360 h1 ?_
  refine ev_aload_n (ev_x 0 k0) dL_law_2361 rfl rfl ?_
  refine ev_iload (u5) dL_law_2362 rfl ?_
  refine ev_iconst (2) dL_law_2364 rfl ?_
  refine ev_iadd dL_law_2365 ?_
  obtain ⟨h2, hQ⟩ := hQ
  refine ev_sld dL_law_2366 h2 ?_
  refine ev_aload_n (ev_x 0 k0) dL_law_2367 rfl rfl ?_
  refine ev_iload (u5) dL_law_2368 rfl ?_
  refine ev_iconst (3) dL_law_2370 rfl ?_
  refine ev_iadd dL_law_2371 ?_
  obtain ⟨h3, hQ⟩ := hQ
  refine ev_sld dL_law_2372 h3 ?_
  refine ev_aload_n (ev_x 0 k0) dL_law_2373 rfl rfl ?_
  refine ev_iload (u5) dL_law_2374 rfl ?_
  refine ev_iconst (4) dL_law_2376 rfl ?_
  refine ev_iadd dL_law_2377 ?_
  obtain ⟨h4, hQ⟩ := hQ
  refine ev_sld dL_law_2378 h4 ?_
  refine ev_aload_n (ev_o 21 o1) dL_law_2379 rfl rfl ?_
  refine ev_cH mh_L_move 7 1 [ev_o 9 a, ev_i (ev_sx g (u5 + 1).toNatClampNeg), ev_i (ev_sx g (u5 + 2).toNatClampNeg), ev_i (ev_sx g (u5 + 3).toNatClampNeg), ev_i (ev_sx g (u5 + 4).toNatClampNeg), ev_o 21 o1] [] dL_law_2380 kw_1622 rfl (by decide) (by omega) (Nat.le_of_ble_eq_true rfl) hQ ?_ rfl
  rintro o S1 ⟨v1_, rfl, hQ⟩
  show ev_E g m_L_law 52 (B + 1) 2383 [some (ev_x 0 k0), some (ev_o 9 a), some (ev_o 10 b), some (ev_o 21 o1), some (ev_o 22 o2), some (ev_i u5), none, none, none, none] [ev_i v1_] S1 Q
  refine ev_istore dL_law_2383 (Nat.le_of_ble_eq_true rfl) (ev_hw rfl) ?_
  show ev_E g m_L_law 52 (B + 1) 2385 [some (ev_x 0 k0), some (ev_o 9 a), some (ev_o 10 b), some (ev_o 21 o1), some (ev_o 22 o2), some (ev_i u5), some (ev_i v1_), none, none, none] [] S1 Q
  refine ev_aload_n (ev_o 10 b) dL_law_2385 rfl rfl ?_
  refine ev_aload_n (ev_x 0 k0) dL_law_2386 rfl rfl ?_
  refine ev_iload (u5) dL_law_2387 rfl ?_
  refine ev_iconst (1) dL_law_2389 rfl ?_
  refine ev_iadd dL_law_2390 ?_
  refine ev_sld dL_law_2391 h1 ?_
  refine ev_aload_n (ev_x 0 k0) dL_law_2392 rfl rfl ?_
  refine ev_iload (u5) dL_law_2393 rfl ?_
  refine ev_iconst (2) dL_law_2395 rfl ?_
  refine ev_iadd dL_law_2396 ?_
  refine ev_sld dL_law_2397 h2 ?_
  refine ev_aload_n (ev_x 0 k0) dL_law_2398 rfl rfl ?_
  refine ev_iload (u5) dL_law_2399 rfl ?_
  refine ev_iconst (3) dL_law_2401 rfl ?_
  refine ev_iadd dL_law_2402 ?_
  refine ev_sld dL_law_2403 h3 ?_
  refine ev_aload_n (ev_x 0 k0) dL_law_2404 rfl rfl ?_
  refine ev_iload (u5) dL_law_2405 rfl ?_
  refine ev_iconst (4) dL_law_2407 rfl ?_
  refine ev_iadd dL_law_2408 ?_
  refine ev_sld dL_law_2409 h4 ?_
  refine ev_cV mv_X10_move 6 0 10 [ev_i (ev_sx g (u5 + 1).toNatClampNeg), ev_i (ev_sx g (u5 + 2).toNatClampNeg), ev_i (ev_sx g (u5 + 3).toNatClampNeg), ev_i (ev_sx g (u5 + 4).toNatClampNeg)] [] dL_law_2410 kw_2377 rfl (by decide) rfl (by decide) (by omega) (Nat.le_of_ble_eq_true rfl) hQ ?_ rfl
  rintro o S2 ⟨v2_, rfl, hQ⟩
  show ev_E g m_L_law 52 (B + 1) 2413 [some (ev_x 0 k0), some (ev_o 9 a), some (ev_o 10 b), some (ev_o 21 o1), some (ev_o 22 o2), some (ev_i u5), some (ev_i v1_), none, none, none] [ev_i v2_] S2 Q
  refine ev_istore dL_law_2413 (Nat.le_of_ble_eq_true rfl) (ev_hw rfl) ?_
  show ev_E g m_L_law 52 (B + 1) 2415 [some (ev_x 0 k0), some (ev_o 9 a), some (ev_o 10 b), some (ev_o 21 o1), some (ev_o 22 o2), some (ev_i u5), some (ev_i v1_), some (ev_i v2_), none, none] [] S2 Q
  refine ev_aload_n (ev_o 10 b) dL_law_2415 rfl rfl ?_
  refine ev_fV mv_X10_thrown 1 10 [] [] dL_law_2416 kw_1939 rfl (by decide) rfl (by decide) (Nat.le_of_ble_eq_true rfl) (sp_X10_thrown b) ?_ rfl
  refine ev_iload (v1_) dL_law_2419 rfl ?_
  refine ev_icmp_eq 2426 dL_law_2421 (by decide) (fun c1 => ?_) (fun c1 => ?_)
  · replace hQ := hQ.1 c1
    refine ev_iload (v1_) dL_law_2426 rfl ?_
    refine ev_if_ne 2443 dL_law_2428 (by decide) (fun c2 => ?_) (fun c2 => ?_)
    · replace hQ := hQ.2 c2
      refine ev_goto 3142 dL_law_2443 (by decide) ?_
      refine ev_fgm [true, true, true, true, true, true, false, false, false, false] ?_
      exact hQ
    · replace hQ := hQ.1 c2
      refine ev_aload_n (ev_o 21 o1) dL_law_2431 rfl rfl ?_
      refine ev_iconst (0) dL_law_2432 rfl ?_
      refine ev_laload dL_law_2433 ?_
      refine ev_iload (v2_) dL_law_2434 rfl ?_
      refine ev_i2l dL_law_2436 ?_
      refine ev_lcmp dL_law_2437 ?_
      refine ev_if_eq 2443 dL_law_2438 (by decide) (fun c3 => ?_) (fun c3 => ?_)
      · replace hQ := hQ.1 c3
        refine ev_goto 3142 dL_law_2443 (by decide) ?_
        refine ev_fgm [true, true, true, true, true, true, false, false, false, false] ?_
        exact hQ
      · replace hQ := hQ.2 c3
        refine ev_iconst (0) dL_law_2441 rfl ?_
        exact ev_ireturn .boolean dL_law_2442 rfl rfl hQ
  · replace hQ := hQ.2 c1
    refine ev_iconst (0) dL_law_2424 rfl ?_
    exact ev_ireturn .boolean dL_law_2425 rfl rfl hQ
set_option maxHeartbeats 4000000 in
set_option maxRecDepth 100000 in
theorem sg_L_law_2446 {g : ev_G} {S : ev_S} {Q : ev_O → ev_S → Prop} {B : Nat} (k0 a b o1 o2 : Nat) (u5 : Int32) (hQ : (vp_in (u5 + 1) (ev_sl g)) ∧ (
    (vp_in (u5 + 2) (ev_sl g)) ∧ (
      (vp_in (u5 + 3) (ev_sl g)) ∧ (
        (vp_in (u5 + 4) (ev_sl g)) ∧ (
          (vp_in (u5 + 5) (ev_sl g)) ∧ (
            (vp_in (u5 + 6) (ev_sl g)) ∧ (
              ev_Cv g m_L_promise 7 1 [ev_o 9 a, ev_i (ev_sx g (u5 + 1).toNatClampNeg), ev_i (ev_sx g (u5 + 2).toNatClampNeg), ev_i (ev_sx g (u5 + 3).toNatClampNeg), ev_i (ev_sx g (u5 + 4).toNatClampNeg), ev_i (ev_sx g (u5 + 5).toNatClampNeg), ev_i (ev_sx g (u5 + 6).toNatClampNeg), ev_o 21 o1] S (fun o S1 => ∃ v1_ : Int32, o = .inl (some (ev_i v1_)) ∧ (
                ev_Cv g m_X10_promise 6 0 [ev_o 10 b, ev_i (ev_sx g (u5 + 1).toNatClampNeg), ev_i (ev_sx g (u5 + 2).toNatClampNeg), ev_i (ev_sx g (u5 + 3).toNatClampNeg), ev_i (ev_sx g (u5 + 4).toNatClampNeg), ev_i (ev_sx g (u5 + 5).toNatClampNeg), ev_i (ev_sx g (u5 + 6).toNatClampNeg)] S1 (fun o S2 => ∃ v2_ : Int32, o = .inl (some (ev_i v2_)) ∧ (
                  ((S2.1 b 7) = v1_ → (
                    (v1_ = 0 → (
                      ((lg_cmp S2.2.1 v2_.toInt64) = 0 → (
                        ev_E g m_L_law 52 (B + 1) 3142 [some (ev_x 0 k0), some (ev_o 9 a), some (ev_o 10 b), some (ev_o 21 o1), some (ev_o 22 o2), some (ev_i u5), none, none, none, none] [] S2 Q)) ∧
                      (¬ ((lg_cmp S2.2.1 v2_.toInt64) = 0) → (
                        Q (.inl (some (ev_i 0))) S2)))) ∧
                    (¬ (v1_ = 0) → (
                      ev_E g m_L_law 52 (B + 1) 3142 [some (ev_x 0 k0), some (ev_o 9 a), some (ev_o 10 b), some (ev_o 21 o1), some (ev_o 22 o2), some (ev_i u5), none, none, none, none] [] S2 Q)))) ∧
                  (¬ ((S2.1 b 7) = v1_) → (
                    Q (.inl (some (ev_i 0))) S2))))))))))))) : ev_E g m_L_law 52 (B + 2) 2446 [some (ev_x 0 k0), some (ev_o 9 a), some (ev_o 10 b), some (ev_o 21 o1), some (ev_o 22 o2), some (ev_i u5), none, none, none, none] [] S Q := by
  refine ev_aload_n (ev_o 9 a) dL_law_2446 rfl rfl ?_
  refine ev_aload_n (ev_x 0 k0) dL_law_2447 rfl rfl ?_
  refine ev_iload (u5) dL_law_2448 rfl ?_
  refine ev_iconst (1) dL_law_2450 rfl ?_
  refine ev_iadd dL_law_2451 ?_
  obtain ⟨h1, hQ⟩ := hQ
  refine ev_sld dL_law_2452 h1 ?_
  refine ev_aload_n (ev_x 0 k0) dL_law_2453 rfl rfl ?_
  refine ev_iload (u5) dL_law_2454 rfl ?_
  refine ev_iconst (2) dL_law_2456 rfl ?_
  refine ev_iadd dL_law_2457 ?_
  obtain ⟨h2, hQ⟩ := hQ
  refine ev_sld dL_law_2458 h2 ?_
  refine ev_aload_n (ev_x 0 k0) dL_law_2459 rfl rfl ?_
  refine ev_iload (u5) dL_law_2460 rfl ?_
  refine ev_iconst (3) dL_law_2462 rfl ?_
  refine ev_iadd dL_law_2463 ?_
  obtain ⟨h3, hQ⟩ := hQ
  refine ev_sld dL_law_2464 h3 ?_
  refine ev_aload_n (ev_x 0 k0) dL_law_2465 rfl rfl ?_
  refine ev_iload (u5) dL_law_2466 rfl ?_
  refine ev_iconst (4) dL_law_2468 rfl ?_
  refine ev_iadd dL_law_2469 ?_
  obtain ⟨h4, hQ⟩ := hQ
  refine ev_sld dL_law_2470 h4 ?_
  refine ev_aload_n (ev_x 0 k0) dL_law_2471 rfl rfl ?_
  refine ev_iload (u5) dL_law_2472 rfl ?_
  refine ev_iconst (5) dL_law_2474 rfl ?_
  refine ev_iadd dL_law_2475 ?_
  obtain ⟨h5, hQ⟩ := hQ
  refine ev_sld dL_law_2476 h5 ?_
  refine ev_aload_n (ev_x 0 k0) dL_law_2477 rfl rfl ?_
  refine ev_iload (u5) dL_law_2478 rfl ?_
  refine ev_bipush (6) dL_law_2480 (by decide) ?_
  refine ev_iadd dL_law_2482 ?_
  obtain ⟨h6, hQ⟩ := hQ
  refine ev_sld dL_law_2483 h6 ?_
  refine ev_aload_n (ev_o 21 o1) dL_law_2484 rfl rfl ?_
  refine ev_cH mh_L_promise 7 1 [ev_o 9 a, ev_i (ev_sx g (u5 + 1).toNatClampNeg), ev_i (ev_sx g (u5 + 2).toNatClampNeg), ev_i (ev_sx g (u5 + 3).toNatClampNeg), ev_i (ev_sx g (u5 + 4).toNatClampNeg), ev_i (ev_sx g (u5 + 5).toNatClampNeg), ev_i (ev_sx g (u5 + 6).toNatClampNeg), ev_o 21 o1] [] dL_law_2485 kw_1634 rfl (by decide) (by omega) (Nat.le_of_ble_eq_true rfl) hQ ?_ rfl
  rintro o S1 ⟨v1_, rfl, hQ⟩
  show ev_E g m_L_law 52 (B + 1) 2488 [some (ev_x 0 k0), some (ev_o 9 a), some (ev_o 10 b), some (ev_o 21 o1), some (ev_o 22 o2), some (ev_i u5), none, none, none, none] [ev_i v1_] S1 Q
  refine ev_istore dL_law_2488 (Nat.le_of_ble_eq_true rfl) (ev_hw rfl) ?_
  show ev_E g m_L_law 52 (B + 1) 2490 [some (ev_x 0 k0), some (ev_o 9 a), some (ev_o 10 b), some (ev_o 21 o1), some (ev_o 22 o2), some (ev_i u5), some (ev_i v1_), none, none, none] [] S1 Q
  refine ev_aload_n (ev_o 10 b) dL_law_2490 rfl rfl ?_
  refine ev_aload_n (ev_x 0 k0) dL_law_2491 rfl rfl ?_
  refine ev_iload (u5) dL_law_2492 rfl ?_
  refine ev_iconst (1) dL_law_2494 rfl ?_
  refine ev_iadd dL_law_2495 ?_
  refine ev_sld dL_law_2496 h1 ?_
  refine ev_aload_n (ev_x 0 k0) dL_law_2497 rfl rfl ?_
  refine ev_iload (u5) dL_law_2498 rfl ?_
  refine ev_iconst (2) dL_law_2500 rfl ?_
  refine ev_iadd dL_law_2501 ?_
  refine ev_sld dL_law_2502 h2 ?_
  refine ev_aload_n (ev_x 0 k0) dL_law_2503 rfl rfl ?_
  refine ev_iload (u5) dL_law_2504 rfl ?_
  refine ev_iconst (3) dL_law_2506 rfl ?_
  refine ev_iadd dL_law_2507 ?_
  refine ev_sld dL_law_2508 h3 ?_
  refine ev_aload_n (ev_x 0 k0) dL_law_2509 rfl rfl ?_
  refine ev_iload (u5) dL_law_2510 rfl ?_
  refine ev_iconst (4) dL_law_2512 rfl ?_
  refine ev_iadd dL_law_2513 ?_
  refine ev_sld dL_law_2514 h4 ?_
  refine ev_aload_n (ev_x 0 k0) dL_law_2515 rfl rfl ?_
  refine ev_iload (u5) dL_law_2516 rfl ?_
  refine ev_iconst (5) dL_law_2518 rfl ?_
  refine ev_iadd dL_law_2519 ?_
  refine ev_sld dL_law_2520 h5 ?_
  refine ev_aload_n (ev_x 0 k0) dL_law_2521 rfl rfl ?_
  refine ev_iload (u5) dL_law_2522 rfl ?_
  refine ev_bipush (6) dL_law_2524 (by decide) ?_
  refine ev_iadd dL_law_2526 ?_
  refine ev_sld dL_law_2527 h6 ?_
  refine ev_cV mv_X10_promise 6 0 10 [ev_i (ev_sx g (u5 + 1).toNatClampNeg), ev_i (ev_sx g (u5 + 2).toNatClampNeg), ev_i (ev_sx g (u5 + 3).toNatClampNeg), ev_i (ev_sx g (u5 + 4).toNatClampNeg), ev_i (ev_sx g (u5 + 5).toNatClampNeg), ev_i (ev_sx g (u5 + 6).toNatClampNeg)] [] dL_law_2528 kw_2381 rfl (by decide) rfl (by decide) (by omega) (Nat.le_of_ble_eq_true rfl) hQ ?_ rfl
  rintro o S2 ⟨v2_, rfl, hQ⟩
  show ev_E g m_L_law 52 (B + 1) 2531 [some (ev_x 0 k0), some (ev_o 9 a), some (ev_o 10 b), some (ev_o 21 o1), some (ev_o 22 o2), some (ev_i u5), some (ev_i v1_), none, none, none] [ev_i v2_] S2 Q
  refine ev_istore dL_law_2531 (Nat.le_of_ble_eq_true rfl) (ev_hw rfl) ?_
  show ev_E g m_L_law 52 (B + 1) 2533 [some (ev_x 0 k0), some (ev_o 9 a), some (ev_o 10 b), some (ev_o 21 o1), some (ev_o 22 o2), some (ev_i u5), some (ev_i v1_), some (ev_i v2_), none, none] [] S2 Q
  refine ev_aload_n (ev_o 10 b) dL_law_2533 rfl rfl ?_
  refine ev_fV mv_X10_thrown 1 10 [] [] dL_law_2534 kw_1939 rfl (by decide) rfl (by decide) (Nat.le_of_ble_eq_true rfl) (sp_X10_thrown b) ?_ rfl
  refine ev_iload (v1_) dL_law_2537 rfl ?_
  refine ev_icmp_eq 2544 dL_law_2539 (by decide) (fun c1 => ?_) (fun c1 => ?_)
  · replace hQ := hQ.1 c1
    refine ev_iload (v1_) dL_law_2544 rfl ?_
    refine ev_if_ne 2561 dL_law_2546 (by decide) (fun c2 => ?_) (fun c2 => ?_)
    · replace hQ := hQ.2 c2
      refine ev_goto 3142 dL_law_2561 (by decide) ?_
      refine ev_fgm [true, true, true, true, true, true, false, false, false, false] ?_
      exact hQ
    · replace hQ := hQ.1 c2
      refine ev_aload_n (ev_o 21 o1) dL_law_2549 rfl rfl ?_
      refine ev_iconst (0) dL_law_2550 rfl ?_
      refine ev_laload dL_law_2551 ?_
      refine ev_iload (v2_) dL_law_2552 rfl ?_
      refine ev_i2l dL_law_2554 ?_
      refine ev_lcmp dL_law_2555 ?_
      refine ev_if_eq 2561 dL_law_2556 (by decide) (fun c3 => ?_) (fun c3 => ?_)
      · replace hQ := hQ.1 c3
        refine ev_goto 3142 dL_law_2561 (by decide) ?_
        refine ev_fgm [true, true, true, true, true, true, false, false, false, false] ?_
        exact hQ
      · replace hQ := hQ.2 c3
        refine ev_iconst (0) dL_law_2559 rfl ?_
        exact ev_ireturn .boolean dL_law_2560 rfl rfl hQ
  · replace hQ := hQ.2 c1
    refine ev_iconst (0) dL_law_2542 rfl ?_
    exact ev_ireturn .boolean dL_law_2543 rfl rfl hQ
set_option maxHeartbeats 4000000 in
set_option maxRecDepth 100000 in
theorem sg_L_law_2564 {g : ev_G} {S : ev_S} {Q : ev_O → ev_S → Prop} {B : Nat} (k0 a b o1 o2 : Nat) (u5 : Int32) (hQ : (vp_in (u5 + 1) (ev_sl g)) ∧ (
    (vp_in (u5 + 2) (ev_sl g)) ∧ (
      ev_Cv g m_L_resend 7 1 [ev_o 9 a, ev_i (ev_sx g (u5 + 1).toNatClampNeg), ev_i (ev_sx g (u5 + 2).toNatClampNeg), ev_o 21 o1] S (fun o S1 => ∃ v1_ : Int32, o = .inl (some (ev_i v1_)) ∧ (
        ev_Cv g m_X10_resend 4 0 [ev_o 10 b, ev_i (ev_sx g (u5 + 1).toNatClampNeg), ev_i (ev_sx g (u5 + 2).toNatClampNeg)] S1 (fun o S2 => ∃ v2_ : Int32, o = .inl (some (ev_i v2_)) ∧ (
          ((S2.1 b 7) = v1_ → (
            (v1_ = 0 → (
              ((lg_cmp S2.2.1 v2_.toInt64) = 0 → (
                ev_E g m_L_law 52 (B + 1) 3142 [some (ev_x 0 k0), some (ev_o 9 a), some (ev_o 10 b), some (ev_o 21 o1), some (ev_o 22 o2), some (ev_i u5), none, none, none, none] [] S2 Q)) ∧
              (¬ ((lg_cmp S2.2.1 v2_.toInt64) = 0) → (
                Q (.inl (some (ev_i 0))) S2)))) ∧
            (¬ (v1_ = 0) → (
              ev_E g m_L_law 52 (B + 1) 3142 [some (ev_x 0 k0), some (ev_o 9 a), some (ev_o 10 b), some (ev_o 21 o1), some (ev_o 22 o2), some (ev_i u5), none, none, none, none] [] S2 Q)))) ∧
          (¬ ((S2.1 b 7) = v1_) → (
            Q (.inl (some (ev_i 0))) S2))))))))) : ev_E g m_L_law 52 (B + 2) 2564 [some (ev_x 0 k0), some (ev_o 9 a), some (ev_o 10 b), some (ev_o 21 o1), some (ev_o 22 o2), some (ev_i u5), none, none, none, none] [] S Q := by
  refine ev_aload_n (ev_o 9 a) dL_law_2564 rfl rfl ?_
  refine ev_aload_n (ev_x 0 k0) dL_law_2565 rfl rfl ?_
  refine ev_iload (u5) dL_law_2566 rfl ?_
  refine ev_iconst (1) dL_law_2568 rfl ?_
  refine ev_iadd dL_law_2569 ?_
  obtain ⟨h1, hQ⟩ := hQ
  refine ev_sld dL_law_2570 h1 ?_
  refine ev_aload_n (ev_x 0 k0) dL_law_2571 rfl rfl ?_
  refine ev_iload (u5) dL_law_2572 rfl ?_
  refine ev_iconst (2) dL_law_2574 rfl ?_
  refine ev_iadd dL_law_2575 ?_
  obtain ⟨h2, hQ⟩ := hQ
  refine ev_sld dL_law_2576 h2 ?_
  refine ev_aload_n (ev_o 21 o1) dL_law_2577 rfl rfl ?_
  refine ev_cH mh_L_resend 7 1 [ev_o 9 a, ev_i (ev_sx g (u5 + 1).toNatClampNeg), ev_i (ev_sx g (u5 + 2).toNatClampNeg), ev_o 21 o1] [] dL_law_2578 kw_1641 rfl (by decide) (by omega) (Nat.le_of_ble_eq_true rfl) hQ ?_ rfl
  rintro o S1 ⟨v1_, rfl, hQ⟩
  show ev_E g m_L_law 52 (B + 1) 2581 [some (ev_x 0 k0), some (ev_o 9 a), some (ev_o 10 b), some (ev_o 21 o1), some (ev_o 22 o2), some (ev_i u5), none, none, none, none] [ev_i v1_] S1 Q
  refine ev_istore dL_law_2581 (Nat.le_of_ble_eq_true rfl) (ev_hw rfl) ?_
  show ev_E g m_L_law 52 (B + 1) 2583 [some (ev_x 0 k0), some (ev_o 9 a), some (ev_o 10 b), some (ev_o 21 o1), some (ev_o 22 o2), some (ev_i u5), some (ev_i v1_), none, none, none] [] S1 Q
  refine ev_aload_n (ev_o 10 b) dL_law_2583 rfl rfl ?_
  refine ev_aload_n (ev_x 0 k0) dL_law_2584 rfl rfl ?_
  refine ev_iload (u5) dL_law_2585 rfl ?_
  refine ev_iconst (1) dL_law_2587 rfl ?_
  refine ev_iadd dL_law_2588 ?_
  refine ev_sld dL_law_2589 h1 ?_
  refine ev_aload_n (ev_x 0 k0) dL_law_2590 rfl rfl ?_
  refine ev_iload (u5) dL_law_2591 rfl ?_
  refine ev_iconst (2) dL_law_2593 rfl ?_
  refine ev_iadd dL_law_2594 ?_
  refine ev_sld dL_law_2595 h2 ?_
  refine ev_cV mv_X10_resend 4 0 10 [ev_i (ev_sx g (u5 + 1).toNatClampNeg), ev_i (ev_sx g (u5 + 2).toNatClampNeg)] [] dL_law_2596 kw_2385 rfl (by decide) rfl (by decide) (by omega) (Nat.le_of_ble_eq_true rfl) hQ ?_ rfl
  rintro o S2 ⟨v2_, rfl, hQ⟩
  show ev_E g m_L_law 52 (B + 1) 2599 [some (ev_x 0 k0), some (ev_o 9 a), some (ev_o 10 b), some (ev_o 21 o1), some (ev_o 22 o2), some (ev_i u5), some (ev_i v1_), none, none, none] [ev_i v2_] S2 Q
  refine ev_istore dL_law_2599 (Nat.le_of_ble_eq_true rfl) (ev_hw rfl) ?_
  show ev_E g m_L_law 52 (B + 1) 2601 [some (ev_x 0 k0), some (ev_o 9 a), some (ev_o 10 b), some (ev_o 21 o1), some (ev_o 22 o2), some (ev_i u5), some (ev_i v1_), some (ev_i v2_), none, none] [] S2 Q
  refine ev_aload_n (ev_o 10 b) dL_law_2601 rfl rfl ?_
  refine ev_fV mv_X10_thrown 1 10 [] [] dL_law_2602 kw_1939 rfl (by decide) rfl (by decide) (Nat.le_of_ble_eq_true rfl) (sp_X10_thrown b) ?_ rfl
  refine ev_iload (v1_) dL_law_2605 rfl ?_
  refine ev_icmp_eq 2612 dL_law_2607 (by decide) (fun c1 => ?_) (fun c1 => ?_)
  · replace hQ := hQ.1 c1
    refine ev_iload (v1_) dL_law_2612 rfl ?_
    refine ev_if_ne 2629 dL_law_2614 (by decide) (fun c2 => ?_) (fun c2 => ?_)
    · replace hQ := hQ.2 c2
      refine ev_goto 3142 dL_law_2629 (by decide) ?_
      refine ev_fgm [true, true, true, true, true, true, false, false, false, false] ?_
      exact hQ
    · replace hQ := hQ.1 c2
      refine ev_aload_n (ev_o 21 o1) dL_law_2617 rfl rfl ?_
      refine ev_iconst (0) dL_law_2618 rfl ?_
      refine ev_laload dL_law_2619 ?_
      refine ev_iload (v2_) dL_law_2620 rfl ?_
      refine ev_i2l dL_law_2622 ?_
      refine ev_lcmp dL_law_2623 ?_
      refine ev_if_eq 2629 dL_law_2624 (by decide) (fun c3 => ?_) (fun c3 => ?_)
      · replace hQ := hQ.1 c3
        refine ev_goto 3142 dL_law_2629 (by decide) ?_
        refine ev_fgm [true, true, true, true, true, true, false, false, false, false] ?_
        exact hQ
      · replace hQ := hQ.2 c3
        refine ev_iconst (0) dL_law_2627 rfl ?_
        exact ev_ireturn .boolean dL_law_2628 rfl rfl hQ
  · replace hQ := hQ.2 c1
    refine ev_iconst (0) dL_law_2610 rfl ?_
    exact ev_ireturn .boolean dL_law_2611 rfl rfl hQ
set_option maxHeartbeats 4000000 in
set_option maxRecDepth 100000 in
theorem sg_L_law_2632 {g : ev_G} {S : ev_S} {Q : ev_O → ev_S → Prop} {B : Nat} (k0 a b o1 o2 : Nat) (u5 : Int32) (hQ : (vp_in (u5 + 1) (ev_sl g)) ∧ (
    ev_Cv g m_L_advance 8 1 [ev_o 9 a, ev_i (ev_sx g (u5 + 1).toNatClampNeg), ev_o 21 o1] S (fun o S1 => ∃ v1_ : Int32, o = .inl (some (ev_i v1_)) ∧ (
      ev_Cv g m_X10_advance 10 0 [ev_o 10 b, ev_i (ev_sx g (u5 + 1).toNatClampNeg)] S1 (fun o S2 => ∃ v2_ : Int32, o = .inl (some (ev_i v2_)) ∧ (
        ((S2.1 b 7) = v1_ → (
          (v1_ = 0 → (
            ((lg_cmp S2.2.1 v2_.toInt64) = 0 → (
              ev_E g m_L_law 52 (B + 1) 3142 [some (ev_x 0 k0), some (ev_o 9 a), some (ev_o 10 b), some (ev_o 21 o1), some (ev_o 22 o2), some (ev_i u5), none, none, none, none] [] S2 Q)) ∧
            (¬ ((lg_cmp S2.2.1 v2_.toInt64) = 0) → (
              Q (.inl (some (ev_i 0))) S2)))) ∧
          (¬ (v1_ = 0) → (
            ev_E g m_L_law 52 (B + 1) 3142 [some (ev_x 0 k0), some (ev_o 9 a), some (ev_o 10 b), some (ev_o 21 o1), some (ev_o 22 o2), some (ev_i u5), none, none, none, none] [] S2 Q)))) ∧
        (¬ ((S2.1 b 7) = v1_) → (
          Q (.inl (some (ev_i 0))) S2)))))))) : ev_E g m_L_law 52 (B + 2) 2632 [some (ev_x 0 k0), some (ev_o 9 a), some (ev_o 10 b), some (ev_o 21 o1), some (ev_o 22 o2), some (ev_i u5), none, none, none, none] [] S Q := by
  refine ev_aload_n (ev_o 9 a) dL_law_2632 rfl rfl ?_
  refine ev_aload_n (ev_x 0 k0) dL_law_2633 rfl rfl ?_
  refine ev_iload (u5) dL_law_2634 rfl ?_
  refine ev_iconst (1) dL_law_2636 rfl ?_
  refine ev_iadd dL_law_2637 ?_
  obtain ⟨h1, hQ⟩ := hQ
  refine ev_sld dL_law_2638 h1 ?_
  refine ev_aload_n (ev_o 21 o1) dL_law_2639 rfl rfl ?_
  refine ev_cH mh_L_advance 8 1 [ev_o 9 a, ev_i (ev_sx g (u5 + 1).toNatClampNeg), ev_o 21 o1] [] dL_law_2640 kw_1648 rfl (by decide) (by omega) (Nat.le_of_ble_eq_true rfl) hQ ?_ rfl
  rintro o S1 ⟨v1_, rfl, hQ⟩
  show ev_E g m_L_law 52 (B + 1) 2643 [some (ev_x 0 k0), some (ev_o 9 a), some (ev_o 10 b), some (ev_o 21 o1), some (ev_o 22 o2), some (ev_i u5), none, none, none, none] [ev_i v1_] S1 Q
  refine ev_istore dL_law_2643 (Nat.le_of_ble_eq_true rfl) (ev_hw rfl) ?_
  show ev_E g m_L_law 52 (B + 1) 2645 [some (ev_x 0 k0), some (ev_o 9 a), some (ev_o 10 b), some (ev_o 21 o1), some (ev_o 22 o2), some (ev_i u5), some (ev_i v1_), none, none, none] [] S1 Q
  refine ev_aload_n (ev_o 10 b) dL_law_2645 rfl rfl ?_
  refine ev_aload_n (ev_x 0 k0) dL_law_2646 rfl rfl ?_
  refine ev_iload (u5) dL_law_2647 rfl ?_
  refine ev_iconst (1) dL_law_2649 rfl ?_
  refine ev_iadd dL_law_2650 ?_
  refine ev_sld dL_law_2651 h1 ?_
  refine ev_cV mv_X10_advance 10 0 10 [ev_i (ev_sx g (u5 + 1).toNatClampNeg)] [] dL_law_2652 kw_2389 rfl (by decide) rfl (by decide) (by omega) (Nat.le_of_ble_eq_true rfl) hQ ?_ rfl
  rintro o S2 ⟨v2_, rfl, hQ⟩
  show ev_E g m_L_law 52 (B + 1) 2655 [some (ev_x 0 k0), some (ev_o 9 a), some (ev_o 10 b), some (ev_o 21 o1), some (ev_o 22 o2), some (ev_i u5), some (ev_i v1_), none, none, none] [ev_i v2_] S2 Q
  refine ev_istore dL_law_2655 (Nat.le_of_ble_eq_true rfl) (ev_hw rfl) ?_
  show ev_E g m_L_law 52 (B + 1) 2657 [some (ev_x 0 k0), some (ev_o 9 a), some (ev_o 10 b), some (ev_o 21 o1), some (ev_o 22 o2), some (ev_i u5), some (ev_i v1_), some (ev_i v2_), none, none] [] S2 Q
  refine ev_aload_n (ev_o 10 b) dL_law_2657 rfl rfl ?_
  refine ev_fV mv_X10_thrown 1 10 [] [] dL_law_2658 kw_1939 rfl (by decide) rfl (by decide) (Nat.le_of_ble_eq_true rfl) (sp_X10_thrown b) ?_ rfl
  refine ev_iload (v1_) dL_law_2661 rfl ?_
  refine ev_icmp_eq 2668 dL_law_2663 (by decide) (fun c1 => ?_) (fun c1 => ?_)
  · replace hQ := hQ.1 c1
    refine ev_iload (v1_) dL_law_2668 rfl ?_
    refine ev_if_ne 2685 dL_law_2670 (by decide) (fun c2 => ?_) (fun c2 => ?_)
    · replace hQ := hQ.2 c2
      refine ev_goto 3142 dL_law_2685 (by decide) ?_
      refine ev_fgm [true, true, true, true, true, true, false, false, false, false] ?_
      exact hQ
    · replace hQ := hQ.1 c2
      refine ev_aload_n (ev_o 21 o1) dL_law_2673 rfl rfl ?_
      refine ev_iconst (0) dL_law_2674 rfl ?_
      refine ev_laload dL_law_2675 ?_
      refine ev_iload (v2_) dL_law_2676 rfl ?_
      refine ev_i2l dL_law_2678 ?_
      refine ev_lcmp dL_law_2679 ?_
      refine ev_if_eq 2685 dL_law_2680 (by decide) (fun c3 => ?_) (fun c3 => ?_)
      · replace hQ := hQ.1 c3
        refine ev_goto 3142 dL_law_2685 (by decide) ?_
        refine ev_fgm [true, true, true, true, true, true, false, false, false, false] ?_
        exact hQ
      · replace hQ := hQ.2 c3
        refine ev_iconst (0) dL_law_2683 rfl ?_
        exact ev_ireturn .boolean dL_law_2684 rfl rfl hQ
  · replace hQ := hQ.2 c1
    refine ev_iconst (0) dL_law_2666 rfl ?_
    exact ev_ireturn .boolean dL_law_2667 rfl rfl hQ
set_option maxHeartbeats 4000000 in
set_option maxRecDepth 100000 in
theorem sg_L_law_2688 {g : ev_G} {S : ev_S} {Q : ev_O → ev_S → Prop} {B : Nat} (k0 a b o1 o2 : Nat) (u5 : Int32) (hQ : (vp_in (u5 + 1) (ev_sl g)) ∧ (
    (vp_in (u5 + 2) (ev_sl g)) ∧ (
      ev_Cv g m_L_addMule 7 1 [ev_o 9 a, ev_i (ev_sx g (u5 + 1).toNatClampNeg), ev_i (ev_sx g (u5 + 2).toNatClampNeg), ev_o 21 o1] S (fun o S1 => ∃ v1_ : Int32, o = .inl (some (ev_i v1_)) ∧ (
        ev_Cv g m_X10_addMule 4 0 [ev_o 10 b, ev_i (ev_sx g (u5 + 1).toNatClampNeg), ev_i (ev_sx g (u5 + 2).toNatClampNeg)] S1 (fun o S2 => ∃ v2_ : Int32, o = .inl (some (ev_i v2_)) ∧ (
          ((S2.1 b 7) = v1_ → (
            (v1_ = 0 → (
              ((lg_cmp S2.2.1 v2_.toInt64) = 0 → (
                ev_E g m_L_law 52 (B + 1) 3142 [some (ev_x 0 k0), some (ev_o 9 a), some (ev_o 10 b), some (ev_o 21 o1), some (ev_o 22 o2), some (ev_i u5), none, none, none, none] [] S2 Q)) ∧
              (¬ ((lg_cmp S2.2.1 v2_.toInt64) = 0) → (
                Q (.inl (some (ev_i 0))) S2)))) ∧
            (¬ (v1_ = 0) → (
              ev_E g m_L_law 52 (B + 1) 3142 [some (ev_x 0 k0), some (ev_o 9 a), some (ev_o 10 b), some (ev_o 21 o1), some (ev_o 22 o2), some (ev_i u5), none, none, none, none] [] S2 Q)))) ∧
          (¬ ((S2.1 b 7) = v1_) → (
            Q (.inl (some (ev_i 0))) S2))))))))) : ev_E g m_L_law 52 (B + 2) 2688 [some (ev_x 0 k0), some (ev_o 9 a), some (ev_o 10 b), some (ev_o 21 o1), some (ev_o 22 o2), some (ev_i u5), none, none, none, none] [] S Q := by
  refine ev_aload_n (ev_o 9 a) dL_law_2688 rfl rfl ?_
  refine ev_aload_n (ev_x 0 k0) dL_law_2689 rfl rfl ?_
  refine ev_iload (u5) dL_law_2690 rfl ?_
  refine ev_iconst (1) dL_law_2692 rfl ?_
  refine ev_iadd dL_law_2693 ?_
  obtain ⟨h1, hQ⟩ := hQ
  refine ev_sld dL_law_2694 h1 ?_
  refine ev_aload_n (ev_x 0 k0) dL_law_2695 rfl rfl ?_
  refine ev_iload (u5) dL_law_2696 rfl ?_
  refine ev_iconst (2) dL_law_2698 rfl ?_
  refine ev_iadd dL_law_2699 ?_
  obtain ⟨h2, hQ⟩ := hQ
  refine ev_sld dL_law_2700 h2 ?_
  refine ev_aload_n (ev_o 21 o1) dL_law_2701 rfl rfl ?_
  refine ev_cH mh_L_addMule 7 1 [ev_o 9 a, ev_i (ev_sx g (u5 + 1).toNatClampNeg), ev_i (ev_sx g (u5 + 2).toNatClampNeg), ev_o 21 o1] [] dL_law_2702 kw_1655 rfl (by decide) (by omega) (Nat.le_of_ble_eq_true rfl) hQ ?_ rfl
  rintro o S1 ⟨v1_, rfl, hQ⟩
  show ev_E g m_L_law 52 (B + 1) 2705 [some (ev_x 0 k0), some (ev_o 9 a), some (ev_o 10 b), some (ev_o 21 o1), some (ev_o 22 o2), some (ev_i u5), none, none, none, none] [ev_i v1_] S1 Q
  refine ev_istore dL_law_2705 (Nat.le_of_ble_eq_true rfl) (ev_hw rfl) ?_
  show ev_E g m_L_law 52 (B + 1) 2707 [some (ev_x 0 k0), some (ev_o 9 a), some (ev_o 10 b), some (ev_o 21 o1), some (ev_o 22 o2), some (ev_i u5), some (ev_i v1_), none, none, none] [] S1 Q
  refine ev_aload_n (ev_o 10 b) dL_law_2707 rfl rfl ?_
  refine ev_aload_n (ev_x 0 k0) dL_law_2708 rfl rfl ?_
  refine ev_iload (u5) dL_law_2709 rfl ?_
  refine ev_iconst (1) dL_law_2711 rfl ?_
  refine ev_iadd dL_law_2712 ?_
  refine ev_sld dL_law_2713 h1 ?_
  refine ev_aload_n (ev_x 0 k0) dL_law_2714 rfl rfl ?_
  refine ev_iload (u5) dL_law_2715 rfl ?_
  refine ev_iconst (2) dL_law_2717 rfl ?_
  refine ev_iadd dL_law_2718 ?_
  refine ev_sld dL_law_2719 h2 ?_
  refine ev_cV mv_X10_addMule 4 0 10 [ev_i (ev_sx g (u5 + 1).toNatClampNeg), ev_i (ev_sx g (u5 + 2).toNatClampNeg)] [] dL_law_2720 kw_2393 rfl (by decide) rfl (by decide) (by omega) (Nat.le_of_ble_eq_true rfl) hQ ?_ rfl
  rintro o S2 ⟨v2_, rfl, hQ⟩
  show ev_E g m_L_law 52 (B + 1) 2723 [some (ev_x 0 k0), some (ev_o 9 a), some (ev_o 10 b), some (ev_o 21 o1), some (ev_o 22 o2), some (ev_i u5), some (ev_i v1_), none, none, none] [ev_i v2_] S2 Q
  refine ev_istore dL_law_2723 (Nat.le_of_ble_eq_true rfl) (ev_hw rfl) ?_
  show ev_E g m_L_law 52 (B + 1) 2725 [some (ev_x 0 k0), some (ev_o 9 a), some (ev_o 10 b), some (ev_o 21 o1), some (ev_o 22 o2), some (ev_i u5), some (ev_i v1_), some (ev_i v2_), none, none] [] S2 Q
  refine ev_aload_n (ev_o 10 b) dL_law_2725 rfl rfl ?_
  refine ev_fV mv_X10_thrown 1 10 [] [] dL_law_2726 kw_1939 rfl (by decide) rfl (by decide) (Nat.le_of_ble_eq_true rfl) (sp_X10_thrown b) ?_ rfl
  refine ev_iload (v1_) dL_law_2729 rfl ?_
  refine ev_icmp_eq 2736 dL_law_2731 (by decide) (fun c1 => ?_) (fun c1 => ?_)
  · replace hQ := hQ.1 c1
    refine ev_iload (v1_) dL_law_2736 rfl ?_
    refine ev_if_ne 2753 dL_law_2738 (by decide) (fun c2 => ?_) (fun c2 => ?_)
    · replace hQ := hQ.2 c2
      refine ev_goto 3142 dL_law_2753 (by decide) ?_
      refine ev_fgm [true, true, true, true, true, true, false, false, false, false] ?_
      exact hQ
    · replace hQ := hQ.1 c2
      refine ev_aload_n (ev_o 21 o1) dL_law_2741 rfl rfl ?_
      refine ev_iconst (0) dL_law_2742 rfl ?_
      refine ev_laload dL_law_2743 ?_
      refine ev_iload (v2_) dL_law_2744 rfl ?_
      refine ev_i2l dL_law_2746 ?_
      refine ev_lcmp dL_law_2747 ?_
      refine ev_if_eq 2753 dL_law_2748 (by decide) (fun c3 => ?_) (fun c3 => ?_)
      · replace hQ := hQ.1 c3
        refine ev_goto 3142 dL_law_2753 (by decide) ?_
        refine ev_fgm [true, true, true, true, true, true, false, false, false, false] ?_
        exact hQ
      · replace hQ := hQ.2 c3
        refine ev_iconst (0) dL_law_2751 rfl ?_
        exact ev_ireturn .boolean dL_law_2752 rfl rfl hQ
  · replace hQ := hQ.2 c1
    refine ev_iconst (0) dL_law_2734 rfl ?_
    exact ev_ireturn .boolean dL_law_2735 rfl rfl hQ
set_option maxHeartbeats 4000000 in
set_option maxRecDepth 100000 in
theorem sg_L_law_2756 {g : ev_G} {S : ev_S} {Q : ev_O → ev_S → Prop} {B : Nat} (k0 a b o1 o2 : Nat) (u5 : Int32) (hQ : (vp_in (u5 + 1) (ev_sl g)) ∧ (
    (vp_in (u5 + 2) (ev_sl g)) ∧ (
      (vp_in (u5 + 3) (ev_sl g)) ∧ (
        ev_Cv g m_L_setSnow 7 1 [ev_o 9 a, ev_i (ev_sx g (u5 + 1).toNatClampNeg), ev_i (ev_sx g (u5 + 2).toNatClampNeg), ev_i (ev_sx g (u5 + 3).toNatClampNeg), ev_o 21 o1] S (fun o S1 => ∃ v1_ : Int32, o = .inl (some (ev_i v1_)) ∧ (
          ev_Cv g m_X10_setSnow 4 0 [ev_o 10 b, ev_i (ev_sx g (u5 + 1).toNatClampNeg), ev_i (ev_sx g (u5 + 2).toNatClampNeg), ev_i (ev_sx g (u5 + 3).toNatClampNeg)] S1 (fun o S2 => ∃ v2_ : Int32, o = .inl (some (ev_i v2_)) ∧ (
            ((S2.1 b 7) = v1_ → (
              (v1_ = 0 → (
                ((lg_cmp S2.2.1 v2_.toInt64) = 0 → (
                  ev_E g m_L_law 52 (B + 1) 3142 [some (ev_x 0 k0), some (ev_o 9 a), some (ev_o 10 b), some (ev_o 21 o1), some (ev_o 22 o2), some (ev_i u5), none, none, none, none] [] S2 Q)) ∧
                (¬ ((lg_cmp S2.2.1 v2_.toInt64) = 0) → (
                  Q (.inl (some (ev_i 0))) S2)))) ∧
              (¬ (v1_ = 0) → (
                ev_E g m_L_law 52 (B + 1) 3142 [some (ev_x 0 k0), some (ev_o 9 a), some (ev_o 10 b), some (ev_o 21 o1), some (ev_o 22 o2), some (ev_i u5), none, none, none, none] [] S2 Q)))) ∧
            (¬ ((S2.1 b 7) = v1_) → (
              Q (.inl (some (ev_i 0))) S2)))))))))) : ev_E g m_L_law 52 (B + 2) 2756 [some (ev_x 0 k0), some (ev_o 9 a), some (ev_o 10 b), some (ev_o 21 o1), some (ev_o 22 o2), some (ev_i u5), none, none, none, none] [] S Q := by
  refine ev_aload_n (ev_o 9 a) dL_law_2756 rfl rfl ?_
  refine ev_aload_n (ev_x 0 k0) dL_law_2757 rfl rfl ?_
  refine ev_iload (u5) dL_law_2758 rfl ?_
  refine ev_iconst (1) dL_law_2760 rfl ?_
  refine ev_iadd dL_law_2761 ?_
  obtain ⟨h1, hQ⟩ := hQ
  refine ev_sld dL_law_2762 h1 ?_
  refine ev_aload_n (ev_x 0 k0) dL_law_2763 rfl rfl ?_
  refine ev_iload (u5) dL_law_2764 rfl ?_
  refine ev_iconst (2) dL_law_2766 rfl ?_
  refine ev_iadd dL_law_2767 ?_
  obtain ⟨h2, hQ⟩ := hQ
  refine ev_sld dL_law_2768 h2 ?_
  refine ev_aload_n (ev_x 0 k0) dL_law_2769 rfl rfl ?_
  refine ev_iload (u5) dL_law_2770 rfl ?_
  refine ev_iconst (3) dL_law_2772 rfl ?_
  refine ev_iadd dL_law_2773 ?_
  obtain ⟨h3, hQ⟩ := hQ
  refine ev_sld dL_law_2774 h3 ?_
  refine ev_aload_n (ev_o 21 o1) dL_law_2775 rfl rfl ?_
  refine ev_cH mh_L_setSnow 7 1 [ev_o 9 a, ev_i (ev_sx g (u5 + 1).toNatClampNeg), ev_i (ev_sx g (u5 + 2).toNatClampNeg), ev_i (ev_sx g (u5 + 3).toNatClampNeg), ev_o 21 o1] [] dL_law_2776 kw_1662 rfl (by decide) (by omega) (Nat.le_of_ble_eq_true rfl) hQ ?_ rfl
  rintro o S1 ⟨v1_, rfl, hQ⟩
  show ev_E g m_L_law 52 (B + 1) 2779 [some (ev_x 0 k0), some (ev_o 9 a), some (ev_o 10 b), some (ev_o 21 o1), some (ev_o 22 o2), some (ev_i u5), none, none, none, none] [ev_i v1_] S1 Q
  refine ev_istore dL_law_2779 (Nat.le_of_ble_eq_true rfl) (ev_hw rfl) ?_
  show ev_E g m_L_law 52 (B + 1) 2781 [some (ev_x 0 k0), some (ev_o 9 a), some (ev_o 10 b), some (ev_o 21 o1), some (ev_o 22 o2), some (ev_i u5), some (ev_i v1_), none, none, none] [] S1 Q
  refine ev_aload_n (ev_o 10 b) dL_law_2781 rfl rfl ?_
  refine ev_aload_n (ev_x 0 k0) dL_law_2782 rfl rfl ?_
  refine ev_iload (u5) dL_law_2783 rfl ?_
  refine ev_iconst (1) dL_law_2785 rfl ?_
  refine ev_iadd dL_law_2786 ?_
  refine ev_sld dL_law_2787 h1 ?_
  refine ev_aload_n (ev_x 0 k0) dL_law_2788 rfl rfl ?_
  refine ev_iload (u5) dL_law_2789 rfl ?_
  refine ev_iconst (2) dL_law_2791 rfl ?_
  refine ev_iadd dL_law_2792 ?_
  refine ev_sld dL_law_2793 h2 ?_
  refine ev_aload_n (ev_x 0 k0) dL_law_2794 rfl rfl ?_
  refine ev_iload (u5) dL_law_2795 rfl ?_
  refine ev_iconst (3) dL_law_2797 rfl ?_
  refine ev_iadd dL_law_2798 ?_
  refine ev_sld dL_law_2799 h3 ?_
  refine ev_cV mv_X10_setSnow 4 0 10 [ev_i (ev_sx g (u5 + 1).toNatClampNeg), ev_i (ev_sx g (u5 + 2).toNatClampNeg), ev_i (ev_sx g (u5 + 3).toNatClampNeg)] [] dL_law_2800 kw_2397 rfl (by decide) rfl (by decide) (by omega) (Nat.le_of_ble_eq_true rfl) hQ ?_ rfl
  rintro o S2 ⟨v2_, rfl, hQ⟩
  show ev_E g m_L_law 52 (B + 1) 2803 [some (ev_x 0 k0), some (ev_o 9 a), some (ev_o 10 b), some (ev_o 21 o1), some (ev_o 22 o2), some (ev_i u5), some (ev_i v1_), none, none, none] [ev_i v2_] S2 Q
  refine ev_istore dL_law_2803 (Nat.le_of_ble_eq_true rfl) (ev_hw rfl) ?_
  show ev_E g m_L_law 52 (B + 1) 2805 [some (ev_x 0 k0), some (ev_o 9 a), some (ev_o 10 b), some (ev_o 21 o1), some (ev_o 22 o2), some (ev_i u5), some (ev_i v1_), some (ev_i v2_), none, none] [] S2 Q
  refine ev_aload_n (ev_o 10 b) dL_law_2805 rfl rfl ?_
  refine ev_fV mv_X10_thrown 1 10 [] [] dL_law_2806 kw_1939 rfl (by decide) rfl (by decide) (Nat.le_of_ble_eq_true rfl) (sp_X10_thrown b) ?_ rfl
  refine ev_iload (v1_) dL_law_2809 rfl ?_
  refine ev_icmp_eq 2816 dL_law_2811 (by decide) (fun c1 => ?_) (fun c1 => ?_)
  · replace hQ := hQ.1 c1
    refine ev_iload (v1_) dL_law_2816 rfl ?_
    refine ev_if_ne 2833 dL_law_2818 (by decide) (fun c2 => ?_) (fun c2 => ?_)
    · replace hQ := hQ.2 c2
      refine ev_goto 3142 dL_law_2833 (by decide) ?_
      refine ev_fgm [true, true, true, true, true, true, false, false, false, false] ?_
      exact hQ
    · replace hQ := hQ.1 c2
      refine ev_aload_n (ev_o 21 o1) dL_law_2821 rfl rfl ?_
      refine ev_iconst (0) dL_law_2822 rfl ?_
      refine ev_laload dL_law_2823 ?_
      refine ev_iload (v2_) dL_law_2824 rfl ?_
      refine ev_i2l dL_law_2826 ?_
      refine ev_lcmp dL_law_2827 ?_
      refine ev_if_eq 2833 dL_law_2828 (by decide) (fun c3 => ?_) (fun c3 => ?_)
      · replace hQ := hQ.1 c3
        refine ev_goto 3142 dL_law_2833 (by decide) ?_
        refine ev_fgm [true, true, true, true, true, true, false, false, false, false] ?_
        exact hQ
      · replace hQ := hQ.2 c3
        refine ev_iconst (0) dL_law_2831 rfl ?_
        exact ev_ireturn .boolean dL_law_2832 rfl rfl hQ
  · replace hQ := hQ.2 c1
    refine ev_iconst (0) dL_law_2814 rfl ?_
    exact ev_ireturn .boolean dL_law_2815 rfl rfl hQ
set_option maxHeartbeats 4000000 in
set_option maxRecDepth 100000 in
theorem sg_L_law_2836 {g : ev_G} {S : ev_S} {Q : ev_O → ev_S → Prop} {B : Nat} (k0 a b o1 o2 : Nat) (u5 : Int32) (hQ : (vp_in (u5 + 1) (ev_sl g)) ∧ (
    ev_Cv g m_L_writeBoard 5 1 [ev_o 9 a, ev_i (ev_sx g (u5 + 1).toNatClampNeg), ev_o 21 o1] S (fun o S1 => ∃ v1_ : Int32, o = .inl (some (ev_i v1_)) ∧ (
      ev_Cv g m_X10_writeBoard 3 0 [ev_o 10 b, ev_i (ev_sx g (u5 + 1).toNatClampNeg)] S1 (fun o S2 => ∃ v2_ : Int32, o = .inl (some (ev_i v2_)) ∧ (
        ((S2.1 b 7) = v1_ → (
          (v1_ = 0 → (
            ((lg_cmp S2.2.1 v2_.toInt64) = 0 → (
              ev_E g m_L_law 52 (B + 1) 3142 [some (ev_x 0 k0), some (ev_o 9 a), some (ev_o 10 b), some (ev_o 21 o1), some (ev_o 22 o2), some (ev_i u5), none, none, none, none] [] S2 Q)) ∧
            (¬ ((lg_cmp S2.2.1 v2_.toInt64) = 0) → (
              Q (.inl (some (ev_i 0))) S2)))) ∧
          (¬ (v1_ = 0) → (
            ev_E g m_L_law 52 (B + 1) 3142 [some (ev_x 0 k0), some (ev_o 9 a), some (ev_o 10 b), some (ev_o 21 o1), some (ev_o 22 o2), some (ev_i u5), none, none, none, none] [] S2 Q)))) ∧
        (¬ ((S2.1 b 7) = v1_) → (
          Q (.inl (some (ev_i 0))) S2)))))))) : ev_E g m_L_law 52 (B + 2) 2836 [some (ev_x 0 k0), some (ev_o 9 a), some (ev_o 10 b), some (ev_o 21 o1), some (ev_o 22 o2), some (ev_i u5), none, none, none, none] [] S Q := by
  refine ev_aload_n (ev_o 9 a) dL_law_2836 rfl rfl ?_
  refine ev_aload_n (ev_x 0 k0) dL_law_2837 rfl rfl ?_
  refine ev_iload (u5) dL_law_2838 rfl ?_
  refine ev_iconst (1) dL_law_2840 rfl ?_
  refine ev_iadd dL_law_2841 ?_
  obtain ⟨h1, hQ⟩ := hQ
  refine ev_sld dL_law_2842 h1 ?_
  refine ev_aload_n (ev_o 21 o1) dL_law_2843 rfl rfl ?_
  refine ev_cH mh_L_writeBoard 5 1 [ev_o 9 a, ev_i (ev_sx g (u5 + 1).toNatClampNeg), ev_o 21 o1] [] dL_law_2844 kw_1669 rfl (by decide) (by omega) (Nat.le_of_ble_eq_true rfl) hQ ?_ rfl
  rintro o S1 ⟨v1_, rfl, hQ⟩
  show ev_E g m_L_law 52 (B + 1) 2847 [some (ev_x 0 k0), some (ev_o 9 a), some (ev_o 10 b), some (ev_o 21 o1), some (ev_o 22 o2), some (ev_i u5), none, none, none, none] [ev_i v1_] S1 Q
  refine ev_istore dL_law_2847 (Nat.le_of_ble_eq_true rfl) (ev_hw rfl) ?_
  show ev_E g m_L_law 52 (B + 1) 2849 [some (ev_x 0 k0), some (ev_o 9 a), some (ev_o 10 b), some (ev_o 21 o1), some (ev_o 22 o2), some (ev_i u5), some (ev_i v1_), none, none, none] [] S1 Q
  refine ev_aload_n (ev_o 10 b) dL_law_2849 rfl rfl ?_
  refine ev_aload_n (ev_x 0 k0) dL_law_2850 rfl rfl ?_
  refine ev_iload (u5) dL_law_2851 rfl ?_
  refine ev_iconst (1) dL_law_2853 rfl ?_
  refine ev_iadd dL_law_2854 ?_
  refine ev_sld dL_law_2855 h1 ?_
  refine ev_cV mv_X10_writeBoard 3 0 10 [ev_i (ev_sx g (u5 + 1).toNatClampNeg)] [] dL_law_2856 kw_2401 rfl (by decide) rfl (by decide) (by omega) (Nat.le_of_ble_eq_true rfl) hQ ?_ rfl
  rintro o S2 ⟨v2_, rfl, hQ⟩
  show ev_E g m_L_law 52 (B + 1) 2859 [some (ev_x 0 k0), some (ev_o 9 a), some (ev_o 10 b), some (ev_o 21 o1), some (ev_o 22 o2), some (ev_i u5), some (ev_i v1_), none, none, none] [ev_i v2_] S2 Q
  refine ev_istore dL_law_2859 (Nat.le_of_ble_eq_true rfl) (ev_hw rfl) ?_
  show ev_E g m_L_law 52 (B + 1) 2861 [some (ev_x 0 k0), some (ev_o 9 a), some (ev_o 10 b), some (ev_o 21 o1), some (ev_o 22 o2), some (ev_i u5), some (ev_i v1_), some (ev_i v2_), none, none] [] S2 Q
  refine ev_aload_n (ev_o 10 b) dL_law_2861 rfl rfl ?_
  refine ev_fV mv_X10_thrown 1 10 [] [] dL_law_2862 kw_1939 rfl (by decide) rfl (by decide) (Nat.le_of_ble_eq_true rfl) (sp_X10_thrown b) ?_ rfl
  refine ev_iload (v1_) dL_law_2865 rfl ?_
  refine ev_icmp_eq 2872 dL_law_2867 (by decide) (fun c1 => ?_) (fun c1 => ?_)
  · replace hQ := hQ.1 c1
    refine ev_iload (v1_) dL_law_2872 rfl ?_
    refine ev_if_ne 2889 dL_law_2874 (by decide) (fun c2 => ?_) (fun c2 => ?_)
    · replace hQ := hQ.2 c2
      refine ev_goto 3142 dL_law_2889 (by decide) ?_
      refine ev_fgm [true, true, true, true, true, true, false, false, false, false] ?_
      exact hQ
    · replace hQ := hQ.1 c2
      refine ev_aload_n (ev_o 21 o1) dL_law_2877 rfl rfl ?_
      refine ev_iconst (0) dL_law_2878 rfl ?_
      refine ev_laload dL_law_2879 ?_
      refine ev_iload (v2_) dL_law_2880 rfl ?_
      refine ev_i2l dL_law_2882 ?_
      refine ev_lcmp dL_law_2883 ?_
      refine ev_if_eq 2889 dL_law_2884 (by decide) (fun c3 => ?_) (fun c3 => ?_)
      · replace hQ := hQ.1 c3
        refine ev_goto 3142 dL_law_2889 (by decide) ?_
        refine ev_fgm [true, true, true, true, true, true, false, false, false, false] ?_
        exact hQ
      · replace hQ := hQ.2 c3
        refine ev_iconst (0) dL_law_2887 rfl ?_
        exact ev_ireturn .boolean dL_law_2888 rfl rfl hQ
  · replace hQ := hQ.2 c1
    refine ev_iconst (0) dL_law_2870 rfl ?_
    exact ev_ireturn .boolean dL_law_2871 rfl rfl hQ
set_option maxHeartbeats 4000000 in
set_option maxRecDepth 100000 in
theorem sg_L_law_2892 {g : ev_G} {S : ev_S} {Q : ev_O → ev_S → Prop} {B : Nat} (k0 a b o1 o2 : Nat) (u5 : Int32) (hQ : (vp_in (u5 + 1) (ev_sl g)) ∧ (
    ev_Cv g m_L_writeMoves 6 1 [ev_o 9 a, ev_i (ev_sx g (u5 + 1).toNatClampNeg), ev_o 21 o1] S (fun o S1 => ∃ v1_ : Int32, o = .inl (some (ev_i v1_)) ∧ (
      ev_Cv g m_X10_writeMoves 3 0 [ev_o 10 b, ev_i (ev_sx g (u5 + 1).toNatClampNeg)] S1 (fun o S2 => ∃ v2_ : Int32, o = .inl (some (ev_i v2_)) ∧ (
        ((S2.1 b 7) = v1_ → (
          (v1_ = 0 → (
            ((lg_cmp S2.2.1 v2_.toInt64) = 0 → (
              ev_E g m_L_law 52 (B + 1) 3142 [some (ev_x 0 k0), some (ev_o 9 a), some (ev_o 10 b), some (ev_o 21 o1), some (ev_o 22 o2), some (ev_i u5), none, none, none, none] [] S2 Q)) ∧
            (¬ ((lg_cmp S2.2.1 v2_.toInt64) = 0) → (
              Q (.inl (some (ev_i 0))) S2)))) ∧
          (¬ (v1_ = 0) → (
            ev_E g m_L_law 52 (B + 1) 3142 [some (ev_x 0 k0), some (ev_o 9 a), some (ev_o 10 b), some (ev_o 21 o1), some (ev_o 22 o2), some (ev_i u5), none, none, none, none] [] S2 Q)))) ∧
        (¬ ((S2.1 b 7) = v1_) → (
          Q (.inl (some (ev_i 0))) S2)))))))) : ev_E g m_L_law 52 (B + 2) 2892 [some (ev_x 0 k0), some (ev_o 9 a), some (ev_o 10 b), some (ev_o 21 o1), some (ev_o 22 o2), some (ev_i u5), none, none, none, none] [] S Q := by
  refine ev_aload_n (ev_o 9 a) dL_law_2892 rfl rfl ?_
  refine ev_aload_n (ev_x 0 k0) dL_law_2893 rfl rfl ?_
  refine ev_iload (u5) dL_law_2894 rfl ?_
  refine ev_iconst (1) dL_law_2896 rfl ?_
  refine ev_iadd dL_law_2897 ?_
  obtain ⟨h1, hQ⟩ := hQ
  refine ev_sld dL_law_2898 h1 ?_
  refine ev_aload_n (ev_o 21 o1) dL_law_2899 rfl rfl ?_
  refine ev_cH mh_L_writeMoves 6 1 [ev_o 9 a, ev_i (ev_sx g (u5 + 1).toNatClampNeg), ev_o 21 o1] [] dL_law_2900 kw_1691 rfl (by decide) (by omega) (Nat.le_of_ble_eq_true rfl) hQ ?_ rfl
  rintro o S1 ⟨v1_, rfl, hQ⟩
  show ev_E g m_L_law 52 (B + 1) 2903 [some (ev_x 0 k0), some (ev_o 9 a), some (ev_o 10 b), some (ev_o 21 o1), some (ev_o 22 o2), some (ev_i u5), none, none, none, none] [ev_i v1_] S1 Q
  refine ev_istore dL_law_2903 (Nat.le_of_ble_eq_true rfl) (ev_hw rfl) ?_
  show ev_E g m_L_law 52 (B + 1) 2905 [some (ev_x 0 k0), some (ev_o 9 a), some (ev_o 10 b), some (ev_o 21 o1), some (ev_o 22 o2), some (ev_i u5), some (ev_i v1_), none, none, none] [] S1 Q
  refine ev_aload_n (ev_o 10 b) dL_law_2905 rfl rfl ?_
  refine ev_aload_n (ev_x 0 k0) dL_law_2906 rfl rfl ?_
  refine ev_iload (u5) dL_law_2907 rfl ?_
  refine ev_iconst (1) dL_law_2909 rfl ?_
  refine ev_iadd dL_law_2910 ?_
  refine ev_sld dL_law_2911 h1 ?_
  refine ev_cV mv_X10_writeMoves 3 0 10 [ev_i (ev_sx g (u5 + 1).toNatClampNeg)] [] dL_law_2912 kw_2409 rfl (by decide) rfl (by decide) (by omega) (Nat.le_of_ble_eq_true rfl) hQ ?_ rfl
  rintro o S2 ⟨v2_, rfl, hQ⟩
  show ev_E g m_L_law 52 (B + 1) 2915 [some (ev_x 0 k0), some (ev_o 9 a), some (ev_o 10 b), some (ev_o 21 o1), some (ev_o 22 o2), some (ev_i u5), some (ev_i v1_), none, none, none] [ev_i v2_] S2 Q
  refine ev_istore dL_law_2915 (Nat.le_of_ble_eq_true rfl) (ev_hw rfl) ?_
  show ev_E g m_L_law 52 (B + 1) 2917 [some (ev_x 0 k0), some (ev_o 9 a), some (ev_o 10 b), some (ev_o 21 o1), some (ev_o 22 o2), some (ev_i u5), some (ev_i v1_), some (ev_i v2_), none, none] [] S2 Q
  refine ev_aload_n (ev_o 10 b) dL_law_2917 rfl rfl ?_
  refine ev_fV mv_X10_thrown 1 10 [] [] dL_law_2918 kw_1939 rfl (by decide) rfl (by decide) (Nat.le_of_ble_eq_true rfl) (sp_X10_thrown b) ?_ rfl
  refine ev_iload (v1_) dL_law_2921 rfl ?_
  refine ev_icmp_eq 2928 dL_law_2923 (by decide) (fun c1 => ?_) (fun c1 => ?_)
  · replace hQ := hQ.1 c1
    refine ev_iload (v1_) dL_law_2928 rfl ?_
    refine ev_if_ne 2945 dL_law_2930 (by decide) (fun c2 => ?_) (fun c2 => ?_)
    · replace hQ := hQ.2 c2
      refine ev_goto 3142 dL_law_2945 (by decide) ?_
      refine ev_fgm [true, true, true, true, true, true, false, false, false, false] ?_
      exact hQ
    · replace hQ := hQ.1 c2
      refine ev_aload_n (ev_o 21 o1) dL_law_2933 rfl rfl ?_
      refine ev_iconst (0) dL_law_2934 rfl ?_
      refine ev_laload dL_law_2935 ?_
      refine ev_iload (v2_) dL_law_2936 rfl ?_
      refine ev_i2l dL_law_2938 ?_
      refine ev_lcmp dL_law_2939 ?_
      refine ev_if_eq 2945 dL_law_2940 (by decide) (fun c3 => ?_) (fun c3 => ?_)
      · replace hQ := hQ.1 c3
        refine ev_goto 3142 dL_law_2945 (by decide) ?_
        refine ev_fgm [true, true, true, true, true, true, false, false, false, false] ?_
        exact hQ
      · replace hQ := hQ.2 c3
        refine ev_iconst (0) dL_law_2943 rfl ?_
        exact ev_ireturn .boolean dL_law_2944 rfl rfl hQ
  · replace hQ := hQ.2 c1
    refine ev_iconst (0) dL_law_2926 rfl ?_
    exact ev_ireturn .boolean dL_law_2927 rfl rfl hQ
set_option maxHeartbeats 4000000 in
set_option maxRecDepth 100000 in
theorem sg_L_law_2948 {g : ev_G} {S : ev_S} {Q : ev_O → ev_S → Prop} {B : Nat} (k0 a b o1 o2 : Nat) (u5 : Int32) (hQ : (vp_in (u5 + 1) (ev_sl g)) ∧ (
    ev_Cv g m_X10_outputByte 2 0 [ev_o 10 b, ev_i (ev_sx g (u5 + 1).toNatClampNeg)] S (fun o S1 => ∃ v1_ : Int32, o = .inl (some (ev_i v1_)) ∧ (
      ((f_X4_byteAt S (a + 9) (ev_sx g (u5 + 1).toNatClampNeg)) = v1_ → (
        ev_E g m_L_law 52 (B + 2) 3142 [some (ev_x 0 k0), some (ev_o 9 a), some (ev_o 10 b), some (ev_o 21 o1), some (ev_o 22 o2), some (ev_i u5), none, none, none, none] [] S1 Q)) ∧
      (¬ ((f_X4_byteAt S (a + 9) (ev_sx g (u5 + 1).toNatClampNeg)) = v1_) → (
        Q (.inl (some (ev_i 0))) S1)))))) : ev_E g m_L_law 52 (B + 2) 2948 [some (ev_x 0 k0), some (ev_o 9 a), some (ev_o 10 b), some (ev_o 21 o1), some (ev_o 22 o2), some (ev_i u5), none, none, none, none] [] S Q := by
  refine ev_aload_n (ev_o 9 a) dL_law_2948 rfl rfl ?_
  refine ev_aload_n (ev_x 0 k0) dL_law_2949 rfl rfl ?_
  refine ev_iload (u5) dL_law_2950 rfl ?_
  refine ev_iconst (1) dL_law_2952 rfl ?_
  refine ev_iadd dL_law_2953 ?_
  obtain ⟨h1, hQ⟩ := hQ
  refine ev_sld dL_law_2954 h1 ?_
  refine ev_fV mv_X9_outputByte 3 9 [ev_i (ev_sx g (u5 + 1).toNatClampNeg)] [] dL_law_2955 kw_1201 rfl (by decide) rfl (by decide) (Nat.le_of_ble_eq_true rfl) (sp_X9_outputByte a (ev_sx g (u5 + 1).toNatClampNeg)) ?_ rfl
  refine ev_aload_n (ev_o 10 b) dL_law_2958 rfl rfl ?_
  refine ev_aload_n (ev_x 0 k0) dL_law_2959 rfl rfl ?_
  refine ev_iload (u5) dL_law_2960 rfl ?_
  refine ev_iconst (1) dL_law_2962 rfl ?_
  refine ev_iadd dL_law_2963 ?_
  refine ev_sld dL_law_2964 h1 ?_
  refine ev_cV mv_X10_outputByte 2 0 10 [ev_i (ev_sx g (u5 + 1).toNatClampNeg)] [ev_i (f_X4_byteAt S (a + 9) (ev_sx g (u5 + 1).toNatClampNeg))] dL_law_2965 kw_2417 rfl (by decide) rfl (by decide) (by omega) (Nat.le_of_ble_eq_true rfl) hQ ?_ rfl
  rintro o S1 ⟨v1_, rfl, hQ⟩
  show ev_E g m_L_law 52 (B + 2) 2968 [some (ev_x 0 k0), some (ev_o 9 a), some (ev_o 10 b), some (ev_o 21 o1), some (ev_o 22 o2), some (ev_i u5), none, none, none, none] [ev_i v1_, ev_i (f_X4_byteAt S (a + 9) (ev_sx g (u5 + 1).toNatClampNeg))] S1 Q
  refine ev_icmp_eq 3142 dL_law_2968 (by decide) (fun c1 => ?_) (fun c1 => ?_)
  · replace hQ := hQ.1 c1
    exact hQ
  · replace hQ := hQ.2 c1
    refine ev_iconst (0) dL_law_2971 rfl ?_
    exact ev_ireturn .boolean dL_law_2972 rfl rfl hQ
set_option maxHeartbeats 4000000 in
set_option maxRecDepth 100000 in
theorem sg_L_law_2973 {g : ev_G} {S : ev_S} {Q : ev_O → ev_S → Prop} {B : Nat} (k0 a b o1 o2 : Nat) (u5 : Int32) (hQ : ∀ S1 : ev_S, S1 = (ev_up S b 7 0) → (
    ((S.1 (a + 93) 1) = (S.1 b 6) → (
      ev_E g m_L_law 52 (B + 2) 3142 [some (ev_x 0 k0), some (ev_o 9 a), some (ev_o 10 b), some (ev_o 21 o1), some (ev_o 22 o2), some (ev_i u5), none, none, none, none] [] S1 Q)) ∧
    (¬ ((S.1 (a + 93) 1) = (S.1 b 6)) → (
      Q (.inl (some (ev_i 0))) S1)))) : ev_E g m_L_law 52 (B + 2) 2973 [some (ev_x 0 k0), some (ev_o 9 a), some (ev_o 10 b), some (ev_o 21 o1), some (ev_o 22 o2), some (ev_i u5), none, none, none, none] [] S Q := by
  refine ev_aload_n (ev_o 9 a) dL_law_2973 rfl rfl ?_
  refine ev_fV mv_X9_undoCount 2 9 [] [] dL_law_2974 kw_1210 rfl (by decide) rfl (by decide) (Nat.le_of_ble_eq_true rfl) (sp_X9_undoCount a) ?_ rfl
  refine ev_aload_n (ev_o 10 b) dL_law_2977 rfl rfl ?_
  refine ev_fV mv_X10_undoCount 1 10 [] [ev_i (S.1 (a + 93) 1)] dL_law_2978 kw_2421 rfl (by decide) rfl (by decide) (Nat.le_of_ble_eq_true rfl) (sp_X10_undoCount b) ?_ rfl
  refine ev_sub hQ (fun S1 hS1 hQ => ?_)
  refine ev_E.goal (pc' := 2981) (L' := [some (ev_x 0 k0), some (ev_o 9 a), some (ev_o 10 b), some (ev_o 21 o1), some (ev_o 22 o2), some (ev_i u5), none, none, none, none]) (K' := [ev_i (S.1 b 6), ev_i (S.1 (a + 93) 1)]) (S' := S1) ?_ rfl rfl rfl hS1
  refine ev_icmp_eq 3142 dL_law_2981 (by decide) (fun c1 => ?_) (fun c1 => ?_)
  · replace hQ := hQ.1 c1
    exact hQ
  · replace hQ := hQ.2 c1
    refine ev_iconst (0) dL_law_2984 rfl ?_
    exact ev_ireturn .boolean dL_law_2985 rfl rfl hQ
set_option maxHeartbeats 4000000 in
set_option maxRecDepth 100000 in
theorem sg_L_law_2986 {g : ev_G} {S : ev_S} {Q : ev_O → ev_S → Prop} {B : Nat} (k0 a b o1 o2 : Nat) (u5 : Int32) (hQ : ev_Cv g m_L_undo 7 1 [ev_o 9 a, ev_o 21 o1] S (fun o S1 => ∃ v1_ : Int32, o = .inl (some (ev_i v1_)) ∧ (
    ev_Cv g m_X10_undo 2 0 [ev_o 10 b] S1 (fun o S2 => ∃ v2_ : Int32, o = .inl (some (ev_i v2_)) ∧ (
      ((S2.1 b 7) = v1_ → (
        (v1_ = 0 → (
          ((lg_cmp S2.2.1 v2_.toInt64) = 0 → (
            ev_E g m_L_law 52 (B + 1) 3142 [some (ev_x 0 k0), some (ev_o 9 a), some (ev_o 10 b), some (ev_o 21 o1), some (ev_o 22 o2), some (ev_i u5), none, none, none, none] [] S2 Q)) ∧
          (¬ ((lg_cmp S2.2.1 v2_.toInt64) = 0) → (
            Q (.inl (some (ev_i 0))) S2)))) ∧
        (¬ (v1_ = 0) → (
          ev_E g m_L_law 52 (B + 1) 3142 [some (ev_x 0 k0), some (ev_o 9 a), some (ev_o 10 b), some (ev_o 21 o1), some (ev_o 22 o2), some (ev_i u5), none, none, none, none] [] S2 Q)))) ∧
      (¬ ((S2.1 b 7) = v1_) → (
        Q (.inl (some (ev_i 0))) S2))))))) : ev_E g m_L_law 52 (B + 2) 2986 [some (ev_x 0 k0), some (ev_o 9 a), some (ev_o 10 b), some (ev_o 21 o1), some (ev_o 22 o2), some (ev_i u5), none, none, none, none] [] S Q := by
  refine ev_aload_n (ev_o 9 a) dL_law_2986 rfl rfl ?_
  refine ev_aload_n (ev_o 21 o1) dL_law_2987 rfl rfl ?_
  refine ev_cH mh_L_undo 7 1 [ev_o 9 a, ev_o 21 o1] [] dL_law_2988 kw_1714 rfl (by decide) (by omega) (Nat.le_of_ble_eq_true rfl) hQ ?_ rfl
  rintro o S1 ⟨v1_, rfl, hQ⟩
  show ev_E g m_L_law 52 (B + 1) 2991 [some (ev_x 0 k0), some (ev_o 9 a), some (ev_o 10 b), some (ev_o 21 o1), some (ev_o 22 o2), some (ev_i u5), none, none, none, none] [ev_i v1_] S1 Q
  refine ev_istore dL_law_2991 (Nat.le_of_ble_eq_true rfl) (ev_hw rfl) ?_
  show ev_E g m_L_law 52 (B + 1) 2993 [some (ev_x 0 k0), some (ev_o 9 a), some (ev_o 10 b), some (ev_o 21 o1), some (ev_o 22 o2), some (ev_i u5), some (ev_i v1_), none, none, none] [] S1 Q
  refine ev_aload_n (ev_o 10 b) dL_law_2993 rfl rfl ?_
  refine ev_cV mv_X10_undo 2 0 10 [] [] dL_law_2994 kw_2425 rfl (by decide) rfl (by decide) (by omega) (Nat.le_of_ble_eq_true rfl) hQ ?_ rfl
  rintro o S2 ⟨v2_, rfl, hQ⟩
  show ev_E g m_L_law 52 (B + 1) 2997 [some (ev_x 0 k0), some (ev_o 9 a), some (ev_o 10 b), some (ev_o 21 o1), some (ev_o 22 o2), some (ev_i u5), some (ev_i v1_), none, none, none] [ev_i v2_] S2 Q
  refine ev_istore dL_law_2997 (Nat.le_of_ble_eq_true rfl) (ev_hw rfl) ?_
  show ev_E g m_L_law 52 (B + 1) 2999 [some (ev_x 0 k0), some (ev_o 9 a), some (ev_o 10 b), some (ev_o 21 o1), some (ev_o 22 o2), some (ev_i u5), some (ev_i v1_), some (ev_i v2_), none, none] [] S2 Q
  refine ev_aload_n (ev_o 10 b) dL_law_2999 rfl rfl ?_
  refine ev_fV mv_X10_thrown 1 10 [] [] dL_law_3000 kw_1939 rfl (by decide) rfl (by decide) (Nat.le_of_ble_eq_true rfl) (sp_X10_thrown b) ?_ rfl
  refine ev_iload (v1_) dL_law_3003 rfl ?_
  refine ev_icmp_eq 3010 dL_law_3005 (by decide) (fun c1 => ?_) (fun c1 => ?_)
  · replace hQ := hQ.1 c1
    refine ev_iload (v1_) dL_law_3010 rfl ?_
    refine ev_if_ne 3027 dL_law_3012 (by decide) (fun c2 => ?_) (fun c2 => ?_)
    · replace hQ := hQ.2 c2
      refine ev_goto 3142 dL_law_3027 (by decide) ?_
      refine ev_fgm [true, true, true, true, true, true, false, false, false, false] ?_
      exact hQ
    · replace hQ := hQ.1 c2
      refine ev_aload_n (ev_o 21 o1) dL_law_3015 rfl rfl ?_
      refine ev_iconst (0) dL_law_3016 rfl ?_
      refine ev_laload dL_law_3017 ?_
      refine ev_iload (v2_) dL_law_3018 rfl ?_
      refine ev_i2l dL_law_3020 ?_
      refine ev_lcmp dL_law_3021 ?_
      refine ev_if_eq 3027 dL_law_3022 (by decide) (fun c3 => ?_) (fun c3 => ?_)
      · replace hQ := hQ.1 c3
        refine ev_goto 3142 dL_law_3027 (by decide) ?_
        refine ev_fgm [true, true, true, true, true, true, false, false, false, false] ?_
        exact hQ
      · replace hQ := hQ.2 c3
        refine ev_iconst (0) dL_law_3025 rfl ?_
        exact ev_ireturn .boolean dL_law_3026 rfl rfl hQ
  · replace hQ := hQ.2 c1
    refine ev_iconst (0) dL_law_3008 rfl ?_
    exact ev_ireturn .boolean dL_law_3009 rfl rfl hQ
set_option maxHeartbeats 4000000 in
set_option maxRecDepth 100000 in
theorem sg_L_law_3030 {g : ev_G} {S : ev_S} {Q : ev_O → ev_S → Prop} {B : Nat} (k0 a b o1 o2 : Nat) (u5 : Int32) (hQ : (vp_in (u5 + 1) (ev_sl g)) ∧ (
    ev_Cv g m_L_save 6 1 [ev_o 9 a, ev_i (ev_sx g (u5 + 1).toNatClampNeg), ev_o 21 o1] S (fun o S1 => ∃ v1_ : Int32, o = .inl (some (ev_i v1_)) ∧ (
      ev_Cv g m_X10_save 2 0 [ev_o 10 b, ev_i (ev_sx g (u5 + 1).toNatClampNeg)] S1 (fun o S2 => ∃ v2_ : Int32, o = .inl (some (ev_i v2_)) ∧ (
        ((S2.1 b 7) = v1_ → (
          (v1_ = 0 → (
            ((lg_cmp S2.2.1 v2_.toInt64) = 0 → (
              ev_E g m_L_law 52 (B + 1) 3142 [some (ev_x 0 k0), some (ev_o 9 a), some (ev_o 10 b), some (ev_o 21 o1), some (ev_o 22 o2), some (ev_i u5), none, none, none, none] [] S2 Q)) ∧
            (¬ ((lg_cmp S2.2.1 v2_.toInt64) = 0) → (
              Q (.inl (some (ev_i 0))) S2)))) ∧
          (¬ (v1_ = 0) → (
            ev_E g m_L_law 52 (B + 1) 3142 [some (ev_x 0 k0), some (ev_o 9 a), some (ev_o 10 b), some (ev_o 21 o1), some (ev_o 22 o2), some (ev_i u5), none, none, none, none] [] S2 Q)))) ∧
        (¬ ((S2.1 b 7) = v1_) → (
          Q (.inl (some (ev_i 0))) S2)))))))) : ev_E g m_L_law 52 (B + 2) 3030 [some (ev_x 0 k0), some (ev_o 9 a), some (ev_o 10 b), some (ev_o 21 o1), some (ev_o 22 o2), some (ev_i u5), none, none, none, none] [] S Q := by
  refine ev_aload_n (ev_o 9 a) dL_law_3030 rfl rfl ?_
  refine ev_aload_n (ev_x 0 k0) dL_law_3031 rfl rfl ?_
  refine ev_iload (u5) dL_law_3032 rfl ?_
  refine ev_iconst (1) dL_law_3034 rfl ?_
  refine ev_iadd dL_law_3035 ?_
  obtain ⟨h1, hQ⟩ := hQ
  refine ev_sld dL_law_3036 h1 ?_
  refine ev_aload_n (ev_o 21 o1) dL_law_3037 rfl rfl ?_
  refine ev_cH mh_L_save 6 1 [ev_o 9 a, ev_i (ev_sx g (u5 + 1).toNatClampNeg), ev_o 21 o1] [] dL_law_3038 kw_1726 rfl (by decide) (by omega) (Nat.le_of_ble_eq_true rfl) hQ ?_ rfl
  rintro o S1 ⟨v1_, rfl, hQ⟩
  show ev_E g m_L_law 52 (B + 1) 3041 [some (ev_x 0 k0), some (ev_o 9 a), some (ev_o 10 b), some (ev_o 21 o1), some (ev_o 22 o2), some (ev_i u5), none, none, none, none] [ev_i v1_] S1 Q
  refine ev_istore dL_law_3041 (Nat.le_of_ble_eq_true rfl) (ev_hw rfl) ?_
  show ev_E g m_L_law 52 (B + 1) 3043 [some (ev_x 0 k0), some (ev_o 9 a), some (ev_o 10 b), some (ev_o 21 o1), some (ev_o 22 o2), some (ev_i u5), some (ev_i v1_), none, none, none] [] S1 Q
  refine ev_aload_n (ev_o 10 b) dL_law_3043 rfl rfl ?_
  refine ev_aload_n (ev_x 0 k0) dL_law_3044 rfl rfl ?_
  refine ev_iload (u5) dL_law_3045 rfl ?_
  refine ev_iconst (1) dL_law_3047 rfl ?_
  refine ev_iadd dL_law_3048 ?_
  refine ev_sld dL_law_3049 h1 ?_
  refine ev_cV mv_X10_save 2 0 10 [ev_i (ev_sx g (u5 + 1).toNatClampNeg)] [] dL_law_3050 kw_2429 rfl (by decide) rfl (by decide) (by omega) (Nat.le_of_ble_eq_true rfl) hQ ?_ rfl
  rintro o S2 ⟨v2_, rfl, hQ⟩
  show ev_E g m_L_law 52 (B + 1) 3053 [some (ev_x 0 k0), some (ev_o 9 a), some (ev_o 10 b), some (ev_o 21 o1), some (ev_o 22 o2), some (ev_i u5), some (ev_i v1_), none, none, none] [ev_i v2_] S2 Q
  refine ev_istore dL_law_3053 (Nat.le_of_ble_eq_true rfl) (ev_hw rfl) ?_
  show ev_E g m_L_law 52 (B + 1) 3055 [some (ev_x 0 k0), some (ev_o 9 a), some (ev_o 10 b), some (ev_o 21 o1), some (ev_o 22 o2), some (ev_i u5), some (ev_i v1_), some (ev_i v2_), none, none] [] S2 Q
  refine ev_aload_n (ev_o 10 b) dL_law_3055 rfl rfl ?_
  refine ev_fV mv_X10_thrown 1 10 [] [] dL_law_3056 kw_1939 rfl (by decide) rfl (by decide) (Nat.le_of_ble_eq_true rfl) (sp_X10_thrown b) ?_ rfl
  refine ev_iload (v1_) dL_law_3059 rfl ?_
  refine ev_icmp_eq 3066 dL_law_3061 (by decide) (fun c1 => ?_) (fun c1 => ?_)
  · replace hQ := hQ.1 c1
    refine ev_iload (v1_) dL_law_3066 rfl ?_
    refine ev_if_ne 3083 dL_law_3068 (by decide) (fun c2 => ?_) (fun c2 => ?_)
    · replace hQ := hQ.2 c2
      refine ev_goto 3142 dL_law_3083 (by decide) ?_
      refine ev_fgm [true, true, true, true, true, true, false, false, false, false] ?_
      exact hQ
    · replace hQ := hQ.1 c2
      refine ev_aload_n (ev_o 21 o1) dL_law_3071 rfl rfl ?_
      refine ev_iconst (0) dL_law_3072 rfl ?_
      refine ev_laload dL_law_3073 ?_
      refine ev_iload (v2_) dL_law_3074 rfl ?_
      refine ev_i2l dL_law_3076 ?_
      refine ev_lcmp dL_law_3077 ?_
      refine ev_if_eq 3083 dL_law_3078 (by decide) (fun c3 => ?_) (fun c3 => ?_)
      · replace hQ := hQ.1 c3
        refine ev_goto 3142 dL_law_3083 (by decide) ?_
        refine ev_fgm [true, true, true, true, true, true, false, false, false, false] ?_
        exact hQ
      · replace hQ := hQ.2 c3
        refine ev_iconst (0) dL_law_3081 rfl ?_
        exact ev_ireturn .boolean dL_law_3082 rfl rfl hQ
  · replace hQ := hQ.2 c1
    refine ev_iconst (0) dL_law_3064 rfl ?_
    exact ev_ireturn .boolean dL_law_3065 rfl rfl hQ
set_option maxHeartbeats 4000000 in
set_option maxRecDepth 100000 in
theorem sg_L_law_3086 {g : ev_G} {S : ev_S} {Q : ev_O → ev_S → Prop} {B : Nat} (k0 a b o1 o2 : Nat) (u5 : Int32) (hQ : (vp_in (u5 + 1) (ev_sl g)) ∧ (
    ev_Cv g m_L_restore 6 2 [ev_o 9 a, ev_i (ev_sx g (u5 + 1).toNatClampNeg), ev_o 21 o1] S (fun o S1 => ∃ v1_ : Int32, o = .inl (some (ev_i v1_)) ∧ (
      ev_Cv g m_X10_restore 2 0 [ev_o 10 b, ev_i (ev_sx g (u5 + 1).toNatClampNeg)] S1 (fun o S2 => ∃ v2_ : Int32, o = .inl (some (ev_i v2_)) ∧ (
        ((S2.1 b 7) = v1_ → (
          (v1_ = 0 → (
            ((lg_cmp S2.2.1 v2_.toInt64) = 0 → (
              ev_E g m_L_law 52 B 3142 [some (ev_x 0 k0), some (ev_o 9 a), some (ev_o 10 b), some (ev_o 21 o1), some (ev_o 22 o2), some (ev_i u5), none, none, none, none] [] S2 Q)) ∧
            (¬ ((lg_cmp S2.2.1 v2_.toInt64) = 0) → (
              Q (.inl (some (ev_i 0))) S2)))) ∧
          (¬ (v1_ = 0) → (
            ev_E g m_L_law 52 B 3142 [some (ev_x 0 k0), some (ev_o 9 a), some (ev_o 10 b), some (ev_o 21 o1), some (ev_o 22 o2), some (ev_i u5), none, none, none, none] [] S2 Q)))) ∧
        (¬ ((S2.1 b 7) = v1_) → (
          Q (.inl (some (ev_i 0))) S2)))))))) : ev_E g m_L_law 52 (B + 2) 3086 [some (ev_x 0 k0), some (ev_o 9 a), some (ev_o 10 b), some (ev_o 21 o1), some (ev_o 22 o2), some (ev_i u5), none, none, none, none] [] S Q := by
  refine ev_aload_n (ev_o 9 a) dL_law_3086 rfl rfl ?_
  refine ev_aload_n (ev_x 0 k0) dL_law_3087 rfl rfl ?_
  refine ev_iload (u5) dL_law_3088 rfl ?_
  refine ev_iconst (1) dL_law_3090 rfl ?_
  refine ev_iadd dL_law_3091 ?_
  obtain ⟨h1, hQ⟩ := hQ
  refine ev_sld dL_law_3092 h1 ?_
  refine ev_aload_n (ev_o 21 o1) dL_law_3093 rfl rfl ?_
  refine ev_cH mh_L_restore 6 2 [ev_o 9 a, ev_i (ev_sx g (u5 + 1).toNatClampNeg), ev_o 21 o1] [] dL_law_3094 kw_1740 rfl (by decide) (by omega) (Nat.le_of_ble_eq_true rfl) hQ ?_ rfl
  rintro o S1 ⟨v1_, rfl, hQ⟩
  show ev_E g m_L_law 52 B 3097 [some (ev_x 0 k0), some (ev_o 9 a), some (ev_o 10 b), some (ev_o 21 o1), some (ev_o 22 o2), some (ev_i u5), none, none, none, none] [ev_i v1_] S1 Q
  refine ev_istore dL_law_3097 (Nat.le_of_ble_eq_true rfl) (ev_hw rfl) ?_
  show ev_E g m_L_law 52 B 3099 [some (ev_x 0 k0), some (ev_o 9 a), some (ev_o 10 b), some (ev_o 21 o1), some (ev_o 22 o2), some (ev_i u5), some (ev_i v1_), none, none, none] [] S1 Q
  refine ev_aload_n (ev_o 10 b) dL_law_3099 rfl rfl ?_
  refine ev_aload_n (ev_x 0 k0) dL_law_3100 rfl rfl ?_
  refine ev_iload (u5) dL_law_3101 rfl ?_
  refine ev_iconst (1) dL_law_3103 rfl ?_
  refine ev_iadd dL_law_3104 ?_
  refine ev_sld dL_law_3105 h1 ?_
  refine ev_cV mv_X10_restore 2 0 10 [ev_i (ev_sx g (u5 + 1).toNatClampNeg)] [] dL_law_3106 kw_2433 rfl (by decide) rfl (by decide) (by omega) (Nat.le_of_ble_eq_true rfl) hQ ?_ rfl
  rintro o S2 ⟨v2_, rfl, hQ⟩
  show ev_E g m_L_law 52 B 3109 [some (ev_x 0 k0), some (ev_o 9 a), some (ev_o 10 b), some (ev_o 21 o1), some (ev_o 22 o2), some (ev_i u5), some (ev_i v1_), none, none, none] [ev_i v2_] S2 Q
  refine ev_istore dL_law_3109 (Nat.le_of_ble_eq_true rfl) (ev_hw rfl) ?_
  show ev_E g m_L_law 52 B 3111 [some (ev_x 0 k0), some (ev_o 9 a), some (ev_o 10 b), some (ev_o 21 o1), some (ev_o 22 o2), some (ev_i u5), some (ev_i v1_), some (ev_i v2_), none, none] [] S2 Q
  refine ev_aload_n (ev_o 10 b) dL_law_3111 rfl rfl ?_
  refine ev_fV mv_X10_thrown 1 10 [] [] dL_law_3112 kw_1939 rfl (by decide) rfl (by decide) (Nat.le_of_ble_eq_true rfl) (sp_X10_thrown b) ?_ rfl
  refine ev_iload (v1_) dL_law_3115 rfl ?_
  refine ev_icmp_eq 3122 dL_law_3117 (by decide) (fun c1 => ?_) (fun c1 => ?_)
  · replace hQ := hQ.1 c1
    refine ev_iload (v1_) dL_law_3122 rfl ?_
    refine ev_if_ne 3139 dL_law_3124 (by decide) (fun c2 => ?_) (fun c2 => ?_)
    · replace hQ := hQ.2 c2
      refine ev_goto 3142 dL_law_3139 (by decide) ?_
      refine ev_fgm [true, true, true, true, true, true, false, false, false, false] ?_
      exact hQ
    · replace hQ := hQ.1 c2
      refine ev_aload_n (ev_o 21 o1) dL_law_3127 rfl rfl ?_
      refine ev_iconst (0) dL_law_3128 rfl ?_
      refine ev_laload dL_law_3129 ?_
      refine ev_iload (v2_) dL_law_3130 rfl ?_
      refine ev_i2l dL_law_3132 ?_
      refine ev_lcmp dL_law_3133 ?_
      refine ev_if_eq 3139 dL_law_3134 (by decide) (fun c3 => ?_) (fun c3 => ?_)
      · replace hQ := hQ.1 c3
        refine ev_goto 3142 dL_law_3139 (by decide) ?_
        refine ev_fgm [true, true, true, true, true, true, false, false, false, false] ?_
        exact hQ
      · replace hQ := hQ.2 c3
        refine ev_iconst (0) dL_law_3137 rfl ?_
        exact ev_ireturn .boolean dL_law_3138 rfl rfl hQ
  · replace hQ := hQ.2 c1
    refine ev_iconst (0) dL_law_3120 rfl ?_
    exact ev_ireturn .boolean dL_law_3121 rfl rfl hQ
set_option maxHeartbeats 4000000 in
set_option maxRecDepth 100000 in
theorem sg_L_law_3142 {g : ev_G} {S : ev_S} {Q : ev_O → ev_S → Prop} {B : Nat} (k0 a b o1 o2 : Nat) (u5 : Int32) (hQ : ev_E g m_L_law 52 (B + 2) 28 [some (ev_x 0 k0), some (ev_o 9 a), some (ev_o 10 b), some (ev_o 21 o1), some (ev_o 22 o2), some (ev_i (u5 + 7)), none, none, none, none] [] S Q) : ev_E g m_L_law 52 (B + 2) 3142 [some (ev_x 0 k0), some (ev_o 9 a), some (ev_o 10 b), some (ev_o 21 o1), some (ev_o 22 o2), some (ev_i u5), none, none, none, none] [] S Q := by
  refine ev_iinc u5 (7) dL_law_3142 rfl (by decide) (ev_hw rfl) ?_
  show ev_E g m_L_law 52 (B + 2) 3145 [some (ev_x 0 k0), some (ev_o 9 a), some (ev_o 10 b), some (ev_o 21 o1), some (ev_o 22 o2), some (ev_i (u5 + 7)), none, none, none, none] [] S Q
  refine ev_goto 28 dL_law_3145 (by decide) ?_
  exact hQ
