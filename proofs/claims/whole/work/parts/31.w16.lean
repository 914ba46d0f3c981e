set_option maxHeartbeats 4000000 in
set_option maxRecDepth 100000 in
theorem sg_L_law_28 {g : ev_G} {S : ev_S} {Q : ev_O → ev_S → Prop} {B : Nat} (k0 a b o1 o2 : Nat) (u5 : Int32) (hQ : (((Int32.ofNat (ev_sl g)) - 7) < u5 → (
    Q (.inl (some (ev_i 1))) S)) ∧
  (¬ (((Int32.ofNat (ev_sl g)) - 7) < u5) → (
    (vp_in u5 (ev_sl g)) ∧ (
      (((ev_sx g u5.toNatClampNeg) &&& 63) = 0 → (
        ev_E g m_L_law 52 (B + 2) 288 [some (ev_x 0 k0), some (ev_o 9 a), some (ev_o 10 b), some (ev_o 21 o1), some (ev_o 22 o2), some (ev_i u5), none, none, none, none] [] S Q)) ∧
      (¬ (((ev_sx g u5.toNatClampNeg) &&& 63) = 0) → (
        (((ev_sx g u5.toNatClampNeg) &&& 63) = 1 → (
          ev_E g m_L_law 52 (B + 2) 392 [some (ev_x 0 k0), some (ev_o 9 a), some (ev_o 10 b), some (ev_o 21 o1), some (ev_o 22 o2), some (ev_i u5), none, none, none, none] [] S Q)) ∧
        (¬ (((ev_sx g u5.toNatClampNeg) &&& 63) = 1) → (
          (((ev_sx g u5.toNatClampNeg) &&& 63) = 2 → (
            ev_E g m_L_law 52 (B + 2) 448 [some (ev_x 0 k0), some (ev_o 9 a), some (ev_o 10 b), some (ev_o 21 o1), some (ev_o 22 o2), some (ev_i u5), none, none, none, none] [] S Q)) ∧
          (¬ (((ev_sx g u5.toNatClampNeg) &&& 63) = 2) → (
            (((ev_sx g u5.toNatClampNeg) &&& 63) = 3 → (
              ev_E g m_L_law 52 (B + 2) 461 [some (ev_x 0 k0), some (ev_o 9 a), some (ev_o 10 b), some (ev_o 21 o1), some (ev_o 22 o2), some (ev_i u5), none, none, none, none] [] S Q)) ∧
            (¬ (((ev_sx g u5.toNatClampNeg) &&& 63) = 3) → (
              (((ev_sx g u5.toNatClampNeg) &&& 63) = 4 → (
                ev_E g m_L_law 52 (B + 2) 474 [some (ev_x 0 k0), some (ev_o 9 a), some (ev_o 10 b), some (ev_o 21 o1), some (ev_o 22 o2), some (ev_i u5), none, none, none, none] [] S Q)) ∧
              (¬ (((ev_sx g u5.toNatClampNeg) &&& 63) = 4) → (
                (((ev_sx g u5.toNatClampNeg) &&& 63) = 5 → (
                  ev_E g m_L_law 52 (B + 2) 487 [some (ev_x 0 k0), some (ev_o 9 a), some (ev_o 10 b), some (ev_o 21 o1), some (ev_o 22 o2), some (ev_i u5), none, none, none, none] [] S Q)) ∧
                (¬ (((ev_sx g u5.toNatClampNeg) &&& 63) = 5) → (
                  (((ev_sx g u5.toNatClampNeg) &&& 63) = 6 → (
                    ev_E g m_L_law 52 (B + 2) 500 [some (ev_x 0 k0), some (ev_o 9 a), some (ev_o 10 b), some (ev_o 21 o1), some (ev_o 22 o2), some (ev_i u5), none, none, none, none] [] S Q)) ∧
                  (¬ (((ev_sx g u5.toNatClampNeg) &&& 63) = 6) → (
                    (((ev_sx g u5.toNatClampNeg) &&& 63) = 7 → (
                      ev_E g m_L_law 52 (B + 2) 513 [some (ev_x 0 k0), some (ev_o 9 a), some (ev_o 10 b), some (ev_o 21 o1), some (ev_o 22 o2), some (ev_i u5), none, none, none, none] [] S Q)) ∧
                    (¬ (((ev_sx g u5.toNatClampNeg) &&& 63) = 7) → (
                      (((ev_sx g u5.toNatClampNeg) &&& 63) = 8 → (
                        ev_E g m_L_law 52 (B + 2) 526 [some (ev_x 0 k0), some (ev_o 9 a), some (ev_o 10 b), some (ev_o 21 o1), some (ev_o 22 o2), some (ev_i u5), none, none, none, none] [] S Q)) ∧
                      (¬ (((ev_sx g u5.toNatClampNeg) &&& 63) = 8) → (
                        (((ev_sx g u5.toNatClampNeg) &&& 63) = 9 → (
                          ev_E g m_L_law 52 (B + 2) 539 [some (ev_x 0 k0), some (ev_o 9 a), some (ev_o 10 b), some (ev_o 21 o1), some (ev_o 22 o2), some (ev_i u5), none, none, none, none] [] S Q)) ∧
                        (¬ (((ev_sx g u5.toNatClampNeg) &&& 63) = 9) → (
                          (((ev_sx g u5.toNatClampNeg) &&& 63) = 10 → (
                            ev_E g m_L_law 52 (B + 2) 552 [some (ev_x 0 k0), some (ev_o 9 a), some (ev_o 10 b), some (ev_o 21 o1), some (ev_o 22 o2), some (ev_i u5), none, none, none, none] [] S Q)) ∧
                          (¬ (((ev_sx g u5.toNatClampNeg) &&& 63) = 10) → (
                            (((ev_sx g u5.toNatClampNeg) &&& 63) = 11 → (
                              ev_E g m_L_law 52 (B + 2) 620 [some (ev_x 0 k0), some (ev_o 9 a), some (ev_o 10 b), some (ev_o 21 o1), some (ev_o 22 o2), some (ev_i u5), none, none, none, none] [] S Q)) ∧
                            (¬ (((ev_sx g u5.toNatClampNeg) &&& 63) = 11) → (
                              (((ev_sx g u5.toNatClampNeg) &&& 63) = 12 → (
                                ev_E g m_L_law 52 (B + 2) 688 [some (ev_x 0 k0), some (ev_o 9 a), some (ev_o 10 b), some (ev_o 21 o1), some (ev_o 22 o2), some (ev_i u5), none, none, none, none] [] S Q)) ∧
                              (¬ (((ev_sx g u5.toNatClampNeg) &&& 63) = 12) → (
                                (((ev_sx g u5.toNatClampNeg) &&& 63) = 13 → (
                                  ev_E g m_L_law 52 (B + 2) 744 [some (ev_x 0 k0), some (ev_o 9 a), some (ev_o 10 b), some (ev_o 21 o1), some (ev_o 22 o2), some (ev_i u5), none, none, none, none] [] S Q)) ∧
                                (¬ (((ev_sx g u5.toNatClampNeg) &&& 63) = 13) → (
                                  (((ev_sx g u5.toNatClampNeg) &&& 63) = 14 → (
                                    ev_E g m_L_law 52 (B + 2) 807 [some (ev_x 0 k0), some (ev_o 9 a), some (ev_o 10 b), some (ev_o 21 o1), some (ev_o 22 o2), some (ev_i u5), none, none, none, none] [] S Q)) ∧
                                  (¬ (((ev_sx g u5.toNatClampNeg) &&& 63) = 14) → (
                                    (((ev_sx g u5.toNatClampNeg) &&& 63) = 15 → (
                                      ev_E g m_L_law 52 (B + 2) 870 [some (ev_x 0 k0), some (ev_o 9 a), some (ev_o 10 b), some (ev_o 21 o1), some (ev_o 22 o2), some (ev_i u5), none, none, none, none] [] S Q)) ∧
                                    (¬ (((ev_sx g u5.toNatClampNeg) &&& 63) = 15) → (
                                      (((ev_sx g u5.toNatClampNeg) &&& 63) = 16 → (
                                        ev_E g m_L_law 52 (B + 2) 926 [some (ev_x 0 k0), some (ev_o 9 a), some (ev_o 10 b), some (ev_o 21 o1), some (ev_o 22 o2), some (ev_i u5), none, none, none, none] [] S Q)) ∧
                                      (¬ (((ev_sx g u5.toNatClampNeg) &&& 63) = 16) → (
                                        (((ev_sx g u5.toNatClampNeg) &&& 63) = 17 → (
                                          ev_E g m_L_law 52 (B + 2) 1013 [some (ev_x 0 k0), some (ev_o 9 a), some (ev_o 10 b), some (ev_o 21 o1), some (ev_o 22 o2), some (ev_i u5), none, none, none, none] [] S Q)) ∧
                                        (¬ (((ev_sx g u5.toNatClampNeg) &&& 63) = 17) → (
                                          (((ev_sx g u5.toNatClampNeg) &&& 63) = 18 → (
                                            ev_E g m_L_law 52 (B + 2) 1081 [some (ev_x 0 k0), some (ev_o 9 a), some (ev_o 10 b), some (ev_o 21 o1), some (ev_o 22 o2), some (ev_i u5), none, none, none, none] [] S Q)) ∧
                                          (¬ (((ev_sx g u5.toNatClampNeg) &&& 63) = 18) → (
                                            (((ev_sx g u5.toNatClampNeg) &&& 63) = 19 → (
                                              ev_E g m_L_law 52 (B + 2) 1149 [some (ev_x 0 k0), some (ev_o 9 a), some (ev_o 10 b), some (ev_o 21 o1), some (ev_o 22 o2), some (ev_i u5), none, none, none, none] [] S Q)) ∧
                                            (¬ (((ev_sx g u5.toNatClampNeg) &&& 63) = 19) → (
                                              (((ev_sx g u5.toNatClampNeg) &&& 63) = 20 → (
                                                ev_E g m_L_law 52 (B + 2) 1217 [some (ev_x 0 k0), some (ev_o 9 a), some (ev_o 10 b), some (ev_o 21 o1), some (ev_o 22 o2), some (ev_i u5), none, none, none, none] [] S Q)) ∧
                                              (¬ (((ev_sx g u5.toNatClampNeg) &&& 63) = 20) → (
                                                (((ev_sx g u5.toNatClampNeg) &&& 63) = 21 → (
                                                  ev_E g m_L_law 52 (B + 2) 1273 [some (ev_x 0 k0), some (ev_o 9 a), some (ev_o 10 b), some (ev_o 21 o1), some (ev_o 22 o2), some (ev_i u5), none, none, none, none] [] S Q)) ∧
                                                (¬ (((ev_sx g u5.toNatClampNeg) &&& 63) = 21) → (
                                                  (((ev_sx g u5.toNatClampNeg) &&& 63) = 22 → (
                                                    ev_E g m_L_law 52 (B + 2) 1286 [some (ev_x 0 k0), some (ev_o 9 a), some (ev_o 10 b), some (ev_o 21 o1), some (ev_o 22 o2), some (ev_i u5), none, none, none, none] [] S Q)) ∧
                                                  (¬ (((ev_sx g u5.toNatClampNeg) &&& 63) = 22) → (
                                                    (((ev_sx g u5.toNatClampNeg) &&& 63) = 23 → (
                                                      ev_E g m_L_law 52 (B + 2) 1299 [some (ev_x 0 k0), some (ev_o 9 a), some (ev_o 10 b), some (ev_o 21 o1), some (ev_o 22 o2), some (ev_i u5), none, none, none, none] [] S Q)) ∧
                                                    (¬ (((ev_sx g u5.toNatClampNeg) &&& 63) = 23) → (
                                                      (((ev_sx g u5.toNatClampNeg) &&& 63) = 24 → (
                                                        ev_E g m_L_law 52 (B + 2) 1367 [some (ev_x 0 k0), some (ev_o 9 a), some (ev_o 10 b), some (ev_o 21 o1), some (ev_o 22 o2), some (ev_i u5), none, none, none, none] [] S Q)) ∧
                                                      (¬ (((ev_sx g u5.toNatClampNeg) &&& 63) = 24) → (
                                                        (((ev_sx g u5.toNatClampNeg) &&& 63) = 25 → (
                                                          ev_E g m_L_law 52 (B + 2) 1423 [some (ev_x 0 k0), some (ev_o 9 a), some (ev_o 10 b), some (ev_o 21 o1), some (ev_o 22 o2), some (ev_i u5), none, none, none, none] [] S Q)) ∧
                                                        (¬ (((ev_sx g u5.toNatClampNeg) &&& 63) = 25) → (
                                                          (((ev_sx g u5.toNatClampNeg) &&& 63) = 26 → (
                                                            ev_E g m_L_law 52 (B + 2) 1491 [some (ev_x 0 k0), some (ev_o 9 a), some (ev_o 10 b), some (ev_o 21 o1), some (ev_o 22 o2), some (ev_i u5), none, none, none, none] [] S Q)) ∧
                                                          (¬ (((ev_sx g u5.toNatClampNeg) &&& 63) = 26) → (
                                                            (((ev_sx g u5.toNatClampNeg) &&& 63) = 27 → (
                                                              ev_E g m_L_law 52 (B + 2) 1559 [some (ev_x 0 k0), some (ev_o 9 a), some (ev_o 10 b), some (ev_o 21 o1), some (ev_o 22 o2), some (ev_i u5), none, none, none, none] [] S Q)) ∧
                                                            (¬ (((ev_sx g u5.toNatClampNeg) &&& 63) = 27) → (
                                                              (((ev_sx g u5.toNatClampNeg) &&& 63) = 28 → (
                                                                ev_E g m_L_law 52 (B + 2) 1572 [some (ev_x 0 k0), some (ev_o 9 a), some (ev_o 10 b), some (ev_o 21 o1), some (ev_o 22 o2), some (ev_i u5), none, none, none, none] [] S Q)) ∧
                                                              (¬ (((ev_sx g u5.toNatClampNeg) &&& 63) = 28) → (
                                                                (((ev_sx g u5.toNatClampNeg) &&& 63) = 29 → (
                                                                  ev_E g m_L_law 52 (B + 2) 1628 [some (ev_x 0 k0), some (ev_o 9 a), some (ev_o 10 b), some (ev_o 21 o1), some (ev_o 22 o2), some (ev_i u5), none, none, none, none] [] S Q)) ∧
                                                                (¬ (((ev_sx g u5.toNatClampNeg) &&& 63) = 29) → (
                                                                  (((ev_sx g u5.toNatClampNeg) &&& 63) = 30 → (
                                                                    ev_E g m_L_law 52 (B + 2) 1684 [some (ev_x 0 k0), some (ev_o 9 a), some (ev_o 10 b), some (ev_o 21 o1), some (ev_o 22 o2), some (ev_i u5), none, none, none, none] [] S Q)) ∧
                                                                  (¬ (((ev_sx g u5.toNatClampNeg) &&& 63) = 30) → (
                                                                    (((ev_sx g u5.toNatClampNeg) &&& 63) = 31 → (
                                                                      ev_E g m_L_law 52 (B + 2) 1747 [some (ev_x 0 k0), some (ev_o 9 a), some (ev_o 10 b), some (ev_o 21 o1), some (ev_o 22 o2), some (ev_i u5), none, none, none, none] [] S Q)) ∧
                                                                    (¬ (((ev_sx g u5.toNatClampNeg) &&& 63) = 31) → (
                                                                      (((ev_sx g u5.toNatClampNeg) &&& 63) = 32 → (
                                                                        ev_E g m_L_law 52 (B + 2) 1803 [some (ev_x 0 k0), some (ev_o 9 a), some (ev_o 10 b), some (ev_o 21 o1), some (ev_o 22 o2), some (ev_i u5), none, none, none, none] [] S Q)) ∧
                                                                      (¬ (((ev_sx g u5.toNatClampNeg) &&& 63) = 32) → (
                                                                        (((ev_sx g u5.toNatClampNeg) &&& 63) = 33 → (
                                                                          ev_E g m_L_law 52 (B + 2) 1859 [some (ev_x 0 k0), some (ev_o 9 a), some (ev_o 10 b), some (ev_o 21 o1), some (ev_o 22 o2), some (ev_i u5), none, none, none, none] [] S Q)) ∧
                                                                        (¬ (((ev_sx g u5.toNatClampNeg) &&& 63) = 33) → (
                                                                          (((ev_sx g u5.toNatClampNeg) &&& 63) = 34 → (
                                                                            ev_E g m_L_law 52 (B + 2) 1915 [some (ev_x 0 k0), some (ev_o 9 a), some (ev_o 10 b), some (ev_o 21 o1), some (ev_o 22 o2), some (ev_i u5), none, none, none, none] [] S Q)) ∧
                                                                          (¬ (((ev_sx g u5.toNatClampNeg) &&& 63) = 34) → (
                                                                            (((ev_sx g u5.toNatClampNeg) &&& 63) = 35 → (
                                                                              ev_E g m_L_law 52 (B + 2) 1928 [some (ev_x 0 k0), some (ev_o 9 a), some (ev_o 10 b), some (ev_o 21 o1), some (ev_o 22 o2), some (ev_i u5), none, none, none, none] [] S Q)) ∧
                                                                            (¬ (((ev_sx g u5.toNatClampNeg) &&& 63) = 35) → (
                                                                              (((ev_sx g u5.toNatClampNeg) &&& 63) = 36 → (
                                                                                ev_E g m_L_law 52 (B + 2) 1984 [some (ev_x 0 k0), some (ev_o 9 a), some (ev_o 10 b), some (ev_o 21 o1), some (ev_o 22 o2), some (ev_i u5), none, none, none, none] [] S Q)) ∧
                                                                              (¬ (((ev_sx g u5.toNatClampNeg) &&& 63) = 36) → (
                                                                                (((ev_sx g u5.toNatClampNeg) &&& 63) = 37 → (
                                                                                  ev_E g m_L_law 52 (B + 2) 2040 [some (ev_x 0 k0), some (ev_o 9 a), some (ev_o 10 b), some (ev_o 21 o1), some (ev_o 22 o2), some (ev_i u5), none, none, none, none] [] S Q)) ∧
                                                                                (¬ (((ev_sx g u5.toNatClampNeg) &&& 63) = 37) → (
                                                                                  (((ev_sx g u5.toNatClampNeg) &&& 63) = 38 → (
                                                                                    ev_E g m_L_law 52 (B + 2) 2117 [some (ev_x 0 k0), some (ev_o 9 a), some (ev_o 10 b), some (ev_o 21 o1), some (ev_o 22 o2), some (ev_i u5), none, none, none, none] [] S Q)) ∧
                                                                                  (¬ (((ev_sx g u5.toNatClampNeg) &&& 63) = 38) → (
                                                                                    (((ev_sx g u5.toNatClampNeg) &&& 63) = 39 → (
                                                                                      ev_E g m_L_law 52 (B + 2) 2160 [some (ev_x 0 k0), some (ev_o 9 a), some (ev_o 10 b), some (ev_o 21 o1), some (ev_o 22 o2), some (ev_i u5), none, none, none, none] [] S Q)) ∧
                                                                                    (¬ (((ev_sx g u5.toNatClampNeg) &&& 63) = 39) → (
                                                                                      (((ev_sx g u5.toNatClampNeg) &&& 63) = 40 → (
                                                                                        ev_E g m_L_law 52 (B + 2) 2173 [some (ev_x 0 k0), some (ev_o 9 a), some (ev_o 10 b), some (ev_o 21 o1), some (ev_o 22 o2), some (ev_i u5), none, none, none, none] [] S Q)) ∧
                                                                                      (¬ (((ev_sx g u5.toNatClampNeg) &&& 63) = 40) → (
                                                                                        (((ev_sx g u5.toNatClampNeg) &&& 63) = 41 → (
                                                                                          ev_E g m_L_law 52 (B + 2) 2229 [some (ev_x 0 k0), some (ev_o 9 a), some (ev_o 10 b), some (ev_o 21 o1), some (ev_o 22 o2), some (ev_i u5), none, none, none, none] [] S Q)) ∧
                                                                                        (¬ (((ev_sx g u5.toNatClampNeg) &&& 63) = 41) → (
                                                                                          (((ev_sx g u5.toNatClampNeg) &&& 63) = 42 → (
                                                                                            ev_E g m_L_law 52 (B + 2) 2285 [some (ev_x 0 k0), some (ev_o 9 a), some (ev_o 10 b), some (ev_o 21 o1), some (ev_o 22 o2), some (ev_i u5), none, none, none, none] [] S Q)) ∧
                                                                                          (¬ (((ev_sx g u5.toNatClampNeg) &&& 63) = 42) → (
                                                                                            (((ev_sx g u5.toNatClampNeg) &&& 63) = 43 → (
                                                                                              ev_E g m_L_law 52 (B + 2) 2298 [some (ev_x 0 k0), some (ev_o 9 a), some (ev_o 10 b), some (ev_o 21 o1), some (ev_o 22 o2), some (ev_i u5), none, none, none, none] [] S Q)) ∧
                                                                                            (¬ (((ev_sx g u5.toNatClampNeg) &&& 63) = 43) → (
                                                                                              (((ev_sx g u5.toNatClampNeg) &&& 63) = 44 → (
                                                                                                ev_E g m_L_law 52 (B + 2) 2354 [some (ev_x 0 k0), some (ev_o 9 a), some (ev_o 10 b), some (ev_o 21 o1), some (ev_o 22 o2), some (ev_i u5), none, none, none, none] [] S Q)) ∧
                                                                                              (¬ (((ev_sx g u5.toNatClampNeg) &&& 63) = 44) → (
                                                                                                (((ev_sx g u5.toNatClampNeg) &&& 63) = 45 → (
                                                                                                  ev_E g m_L_law 52 (B + 2) 2446 [some (ev_x 0 k0), some (ev_o 9 a), some (ev_o 10 b), some (ev_o 21 o1), some (ev_o 22 o2), some (ev_i u5), none, none, none, none] [] S Q)) ∧
                                                                                                (¬ (((ev_sx g u5.toNatClampNeg) &&& 63) = 45) → (
                                                                                                  (((ev_sx g u5.toNatClampNeg) &&& 63) = 46 → (
                                                                                                    ev_E g m_L_law 52 (B + 2) 2564 [some (ev_x 0 k0), some (ev_o 9 a), some (ev_o 10 b), some (ev_o 21 o1), some (ev_o 22 o2), some (ev_i u5), none, none, none, none] [] S Q)) ∧
                                                                                                  (¬ (((ev_sx g u5.toNatClampNeg) &&& 63) = 46) → (
                                                                                                    (((ev_sx g u5.toNatClampNeg) &&& 63) = 47 → (
                                                                                                      ev_E g m_L_law 52 (B + 2) 2632 [some (ev_x 0 k0), some (ev_o 9 a), some (ev_o 10 b), some (ev_o 21 o1), some (ev_o 22 o2), some (ev_i u5), none, none, none, none] [] S Q)) ∧
                                                                                                    (¬ (((ev_sx g u5.toNatClampNeg) &&& 63) = 47) → (
                                                                                                      (((ev_sx g u5.toNatClampNeg) &&& 63) = 48 → (
                                                                                                        ev_E g m_L_law 52 (B + 2) 2688 [some (ev_x 0 k0), some (ev_o 9 a), some (ev_o 10 b), some (ev_o 21 o1), some (ev_o 22 o2), some (ev_i u5), none, none, none, none] [] S Q)) ∧
                                                                                                      (¬ (((ev_sx g u5.toNatClampNeg) &&& 63) = 48) → (
                                                                                                        (((ev_sx g u5.toNatClampNeg) &&& 63) = 49 → (
                                                                                                          ev_E g m_L_law 52 (B + 2) 2756 [some (ev_x 0 k0), some (ev_o 9 a), some (ev_o 10 b), some (ev_o 21 o1), some (ev_o 22 o2), some (ev_i u5), none, none, none, none] [] S Q)) ∧
                                                                                                        (¬ (((ev_sx g u5.toNatClampNeg) &&& 63) = 49) → (
                                                                                                          (((ev_sx g u5.toNatClampNeg) &&& 63) = 50 → (
                                                                                                            ev_E g m_L_law 52 (B + 2) 2836 [some (ev_x 0 k0), some (ev_o 9 a), some (ev_o 10 b), some (ev_o 21 o1), some (ev_o 22 o2), some (ev_i u5), none, none, none, none] [] S Q)) ∧
                                                                                                          (¬ (((ev_sx g u5.toNatClampNeg) &&& 63) = 50) → (
                                                                                                            (((ev_sx g u5.toNatClampNeg) &&& 63) = 51 → (
                                                                                                              ev_E g m_L_law 52 (B + 2) 2892 [some (ev_x 0 k0), some (ev_o 9 a), some (ev_o 10 b), some (ev_o 21 o1), some (ev_o 22 o2), some (ev_i u5), none, none, none, none] [] S Q)) ∧
                                                                                                            (¬ (((ev_sx g u5.toNatClampNeg) &&& 63) = 51) → (
                                                                                                              (((ev_sx g u5.toNatClampNeg) &&& 63) = 52 → (
                                                                                                                ev_E g m_L_law 52 (B + 2) 2948 [some (ev_x 0 k0), some (ev_o 9 a), some (ev_o 10 b), some (ev_o 21 o1), some (ev_o 22 o2), some (ev_i u5), none, none, none, none] [] S Q)) ∧
                                                                                                              (¬ (((ev_sx g u5.toNatClampNeg) &&& 63) = 52) → (
                                                                                                                (((ev_sx g u5.toNatClampNeg) &&& 63) = 53 → (
                                                                                                                  ev_E g m_L_law 52 (B + 2) 2973 [some (ev_x 0 k0), some (ev_o 9 a), some (ev_o 10 b), some (ev_o 21 o1), some (ev_o 22 o2), some (ev_i u5), none, none, none, none] [] S Q)) ∧
                                                                                                                (¬ (((ev_sx g u5.toNatClampNeg) &&& 63) = 53) → (
                                                                                                                  (((ev_sx g u5.toNatClampNeg) &&& 63) = 54 → (
                                                                                                                    ev_E g m_L_law 52 (B + 2) 2986 [some (ev_x 0 k0), some (ev_o 9 a), some (ev_o 10 b), some (ev_o 21 o1), some (ev_o 22 o2), some (ev_i u5), none, none, none, none] [] S Q)) ∧
                                                                                                                  (¬ (((ev_sx g u5.toNatClampNeg) &&& 63) = 54) → (
                                                                                                                    (((ev_sx g u5.toNatClampNeg) &&& 63) = 55 → (
                                                                                                                      ev_E g m_L_law 52 (B + 2) 3030 [some (ev_x 0 k0), some (ev_o 9 a), some (ev_o 10 b), some (ev_o 21 o1), some (ev_o 22 o2), some (ev_i u5), none, none, none, none] [] S Q)) ∧
                                                                                                                    (¬ (((ev_sx g u5.toNatClampNeg) &&& 63) = 55) → (
                                                                                                                      (((ev_sx g u5.toNatClampNeg) &&& 63) = 56 → (
                                                                                                                        ev_E g m_L_law 52 (B + 2) 3086 [some (ev_x 0 k0), some (ev_o 9 a), some (ev_o 10 b), some (ev_o 21 o1), some (ev_o 22 o2), some (ev_i u5), none, none, none, none] [] S Q)) ∧
                                                                                                                      (¬ (((ev_sx g u5.toNatClampNeg) &&& 63) = 56) → (
                                                                                                                        ev_E g m_L_law 52 (B + 2) 3142 [some (ev_x 0 k0), some (ev_o 9 a), some (ev_o 10 b), some (ev_o 21 o1), some (ev_o 22 o2), some (ev_i u5), none, none, none, none] [] S Q)))))))))))))))))))))))))))))))))))))))))))))))))))))))))))))))))))))))))))))))))))))))))))))))))))))))))))))))))))))) : ev_E g m_L_law 52 (B + 2) 28 [some (ev_x 0 k0), some (ev_o 9 a), some (ev_o 10 b), some (ev_o 21 o1), some (ev_o 22 o2), some (ev_i u5), none, none, none, none] [] S Q := by
  refine ev_iload (u5) dL_law_28 rfl ?_
  refine ev_aload_n (ev_x 0 k0) dL_law_30 rfl rfl ?_
  refine ev_slen dL_law_31 ?_
  refine ev_bipush (7) dL_law_32 (by decide) ?_
  refine ev_isub dL_law_34 ?_
  refine ev_icmp_gt 3148 dL_law_35 (by decide) (fun c1 => ?_) (fun c1 => ?_)
  · replace hQ := hQ.1 c1
    refine ev_iconst (1) dL_law_3148 rfl ?_
    exact ev_ireturn .boolean dL_law_3149 rfl rfl hQ
  · replace hQ := hQ.2 c1
    refine ev_aload_n (ev_x 0 k0) dL_law_38 rfl rfl ?_
    refine ev_iload (u5) dL_law_39 rfl ?_
    obtain ⟨h1, hQ⟩ := hQ
    refine ev_sld dL_law_41 h1 ?_
    refine ev_bipush (63) dL_law_42 (by decide) ?_
    refine ev_iand dL_law_44 ?_
    by_cases c2 : ((ev_sx g u5.toNatClampNeg) &&& 63) = 0
    · replace hQ := hQ.1 c2
      refine ev_tableIn (off := 243) 288 dL_law_45 (by rw [c2]; decide) (by rw [c2]; decide) (by rw [c2]; rfl) (by decide) ?_
      exact hQ
    · replace hQ := hQ.2 c2
      by_cases c3 : ((ev_sx g u5.toNatClampNeg) &&& 63) = 1
      · replace hQ := hQ.1 c3
        refine ev_tableIn (off := 347) 392 dL_law_45 (by rw [c3]; decide) (by rw [c3]; decide) (by rw [c3]; rfl) (by decide) ?_
        exact hQ
      · replace hQ := hQ.2 c3
        by_cases c4 : ((ev_sx g u5.toNatClampNeg) &&& 63) = 2
        · replace hQ := hQ.1 c4
          refine ev_tableIn (off := 403) 448 dL_law_45 (by rw [c4]; decide) (by rw [c4]; decide) (by rw [c4]; rfl) (by decide) ?_
          exact hQ
        · replace hQ := hQ.2 c4
          by_cases c5 : ((ev_sx g u5.toNatClampNeg) &&& 63) = 3
          · replace hQ := hQ.1 c5
            refine ev_tableIn (off := 416) 461 dL_law_45 (by rw [c5]; decide) (by rw [c5]; decide) (by rw [c5]; rfl) (by decide) ?_
            exact hQ
          · replace hQ := hQ.2 c5
            by_cases c6 : ((ev_sx g u5.toNatClampNeg) &&& 63) = 4
            · replace hQ := hQ.1 c6
              refine ev_tableIn (off := 429) 474 dL_law_45 (by rw [c6]; decide) (by rw [c6]; decide) (by rw [c6]; rfl) (by decide) ?_
              exact hQ
            · replace hQ := hQ.2 c6
              by_cases c7 : ((ev_sx g u5.toNatClampNeg) &&& 63) = 5
              · replace hQ := hQ.1 c7
                refine ev_tableIn (off := 442) 487 dL_law_45 (by rw [c7]; decide) (by rw [c7]; decide) (by rw [c7]; rfl) (by decide) ?_
                exact hQ
              · replace hQ := hQ.2 c7
                by_cases c8 : ((ev_sx g u5.toNatClampNeg) &&& 63) = 6
                · replace hQ := hQ.1 c8
                  refine ev_tableIn (off := 455) 500 dL_law_45 (by rw [c8]; decide) (by rw [c8]; decide) (by rw [c8]; rfl) (by decide) ?_
                  exact hQ
                · replace hQ := hQ.2 c8
                  by_cases c9 : ((ev_sx g u5.toNatClampNeg) &&& 63) = 7
                  · replace hQ := hQ.1 c9
                    refine ev_tableIn (off := 468) 513 dL_law_45 (by rw [c9]; decide) (by rw [c9]; decide) (by rw [c9]; rfl) (by decide) ?_
                    exact hQ
                  · replace hQ := hQ.2 c9
                    by_cases c10 : ((ev_sx g u5.toNatClampNeg) &&& 63) = 8
                    · replace hQ := hQ.1 c10
                      refine ev_tableIn (off := 481) 526 dL_law_45 (by rw [c10]; decide) (by rw [c10]; decide) (by rw [c10]; rfl) (by decide) ?_
                      exact hQ
                    · replace hQ := hQ.2 c10
                      by_cases c11 : ((ev_sx g u5.toNatClampNeg) &&& 63) = 9
                      · replace hQ := hQ.1 c11
                        refine ev_tableIn (off := 494) 539 dL_law_45 (by rw [c11]; decide) (by rw [c11]; decide) (by rw [c11]; rfl) (by decide) ?_
                        exact hQ
                      · replace hQ := hQ.2 c11
                        by_cases c12 : ((ev_sx g u5.toNatClampNeg) &&& 63) = 10
                        · replace hQ := hQ.1 c12
                          refine ev_tableIn (off := 507) 552 dL_law_45 (by rw [c12]; decide) (by rw [c12]; decide) (by rw [c12]; rfl) (by decide) ?_
                          exact hQ
                        · replace hQ := hQ.2 c12
                          by_cases c13 : ((ev_sx g u5.toNatClampNeg) &&& 63) = 11
                          · replace hQ := hQ.1 c13
                            refine ev_tableIn (off := 575) 620 dL_law_45 (by rw [c13]; decide) (by rw [c13]; decide) (by rw [c13]; rfl) (by decide) ?_
                            exact hQ
                          · replace hQ := hQ.2 c13
                            by_cases c14 : ((ev_sx g u5.toNatClampNeg) &&& 63) = 12
                            · replace hQ := hQ.1 c14
                              refine ev_tableIn (off := 643) 688 dL_law_45 (by rw [c14]; decide) (by rw [c14]; decide) (by rw [c14]; rfl) (by decide) ?_
                              exact hQ
                            · replace hQ := hQ.2 c14
                              by_cases c15 : ((ev_sx g u5.toNatClampNeg) &&& 63) = 13
                              · replace hQ := hQ.1 c15
                                refine ev_tableIn (off := 699) 744 dL_law_45 (by rw [c15]; decide) (by rw [c15]; decide) (by rw [c15]; rfl) (by decide) ?_
                                exact hQ
                              · replace hQ := hQ.2 c15
                                by_cases c16 : ((ev_sx g u5.toNatClampNeg) &&& 63) = 14
                                · replace hQ := hQ.1 c16
                                  refine ev_tableIn (off := 762) 807 dL_law_45 (by rw [c16]; decide) (by rw [c16]; decide) (by rw [c16]; rfl) (by decide) ?_
                                  exact hQ
                                · replace hQ := hQ.2 c16
                                  by_cases c17 : ((ev_sx g u5.toNatClampNeg) &&& 63) = 15
                                  · replace hQ := hQ.1 c17
                                    refine ev_tableIn (off := 825) 870 dL_law_45 (by rw [c17]; decide) (by rw [c17]; decide) (by rw [c17]; rfl) (by decide) ?_
                                    exact hQ
                                  · replace hQ := hQ.2 c17
                                    by_cases c18 : ((ev_sx g u5.toNatClampNeg) &&& 63) = 16
                                    · replace hQ := hQ.1 c18
                                      refine ev_tableIn (off := 881) 926 dL_law_45 (by rw [c18]; decide) (by rw [c18]; decide) (by rw [c18]; rfl) (by decide) ?_
                                      exact hQ
                                    · replace hQ := hQ.2 c18
                                      by_cases c19 : ((ev_sx g u5.toNatClampNeg) &&& 63) = 17
                                      · replace hQ := hQ.1 c19
                                        refine ev_tableIn (off := 968) 1013 dL_law_45 (by rw [c19]; decide) (by rw [c19]; decide) (by rw [c19]; rfl) (by decide) ?_
                                        exact hQ
                                      · replace hQ := hQ.2 c19
                                        by_cases c20 : ((ev_sx g u5.toNatClampNeg) &&& 63) = 18
                                        · replace hQ := hQ.1 c20
                                          refine ev_tableIn (off := 1036) 1081 dL_law_45 (by rw [c20]; decide) (by rw [c20]; decide) (by rw [c20]; rfl) (by decide) ?_
                                          exact hQ
                                        · replace hQ := hQ.2 c20
                                          by_cases c21 : ((ev_sx g u5.toNatClampNeg) &&& 63) = 19
                                          · replace hQ := hQ.1 c21
                                            refine ev_tableIn (off := 1104) 1149 dL_law_45 (by rw [c21]; decide) (by rw [c21]; decide) (by rw [c21]; rfl) (by decide) ?_
                                            exact hQ
                                          · replace hQ := hQ.2 c21
                                            by_cases c22 : ((ev_sx g u5.toNatClampNeg) &&& 63) = 20
                                            · replace hQ := hQ.1 c22
                                              refine ev_tableIn (off := 1172) 1217 dL_law_45 (by rw [c22]; decide) (by rw [c22]; decide) (by rw [c22]; rfl) (by decide) ?_
                                              exact hQ
                                            · replace hQ := hQ.2 c22
                                              by_cases c23 : ((ev_sx g u5.toNatClampNeg) &&& 63) = 21
                                              · replace hQ := hQ.1 c23
                                                refine ev_tableIn (off := 1228) 1273 dL_law_45 (by rw [c23]; decide) (by rw [c23]; decide) (by rw [c23]; rfl) (by decide) ?_
                                                exact hQ
                                              · replace hQ := hQ.2 c23
                                                by_cases c24 : ((ev_sx g u5.toNatClampNeg) &&& 63) = 22
                                                · replace hQ := hQ.1 c24
                                                  refine ev_tableIn (off := 1241) 1286 dL_law_45 (by rw [c24]; decide) (by rw [c24]; decide) (by rw [c24]; rfl) (by decide) ?_
                                                  exact hQ
                                                · replace hQ := hQ.2 c24
                                                  by_cases c25 : ((ev_sx g u5.toNatClampNeg) &&& 63) = 23
                                                  · replace hQ := hQ.1 c25
                                                    refine ev_tableIn (off := 1254) 1299 dL_law_45 (by rw [c25]; decide) (by rw [c25]; decide) (by rw [c25]; rfl) (by decide) ?_
                                                    exact hQ
                                                  · replace hQ := hQ.2 c25
                                                    by_cases c26 : ((ev_sx g u5.toNatClampNeg) &&& 63) = 24
                                                    · replace hQ := hQ.1 c26
                                                      refine ev_tableIn (off := 1322) 1367 dL_law_45 (by rw [c26]; decide) (by rw [c26]; decide) (by rw [c26]; rfl) (by decide) ?_
                                                      exact hQ
                                                    · replace hQ := hQ.2 c26
                                                      by_cases c27 : ((ev_sx g u5.toNatClampNeg) &&& 63) = 25
                                                      · replace hQ := hQ.1 c27
                                                        refine ev_tableIn (off := 1378) 1423 dL_law_45 (by rw [c27]; decide) (by rw [c27]; decide) (by rw [c27]; rfl) (by decide) ?_
                                                        exact hQ
                                                      · replace hQ := hQ.2 c27
                                                        by_cases c28 : ((ev_sx g u5.toNatClampNeg) &&& 63) = 26
                                                        · replace hQ := hQ.1 c28
                                                          refine ev_tableIn (off := 1446) 1491 dL_law_45 (by rw [c28]; decide) (by rw [c28]; decide) (by rw [c28]; rfl) (by decide) ?_
                                                          exact hQ
                                                        · replace hQ := hQ.2 c28
                                                          by_cases c29 : ((ev_sx g u5.toNatClampNeg) &&& 63) = 27
                                                          · replace hQ := hQ.1 c29
                                                            refine ev_tableIn (off := 1514) 1559 dL_law_45 (by rw [c29]; decide) (by rw [c29]; decide) (by rw [c29]; rfl) (by decide) ?_
                                                            exact hQ
                                                          · replace hQ := hQ.2 c29
                                                            by_cases c30 : ((ev_sx g u5.toNatClampNeg) &&& 63) = 28
                                                            · replace hQ := hQ.1 c30
                                                              refine ev_tableIn (off := 1527) 1572 dL_law_45 (by rw [c30]; decide) (by rw [c30]; decide) (by rw [c30]; rfl) (by decide) ?_
                                                              exact hQ
                                                            · replace hQ := hQ.2 c30
                                                              by_cases c31 : ((ev_sx g u5.toNatClampNeg) &&& 63) = 29
                                                              · replace hQ := hQ.1 c31
                                                                refine ev_tableIn (off := 1583) 1628 dL_law_45 (by rw [c31]; decide) (by rw [c31]; decide) (by rw [c31]; rfl) (by decide) ?_
                                                                exact hQ
                                                              · replace hQ := hQ.2 c31
                                                                by_cases c32 : ((ev_sx g u5.toNatClampNeg) &&& 63) = 30
                                                                · replace hQ := hQ.1 c32
                                                                  refine ev_tableIn (off := 1639) 1684 dL_law_45 (by rw [c32]; decide) (by rw [c32]; decide) (by rw [c32]; rfl) (by decide) ?_
                                                                  exact hQ
                                                                · replace hQ := hQ.2 c32
                                                                  by_cases c33 : ((ev_sx g u5.toNatClampNeg) &&& 63) = 31
                                                                  · replace hQ := hQ.1 c33
                                                                    refine ev_tableIn (off := 1702) 1747 dL_law_45 (by rw [c33]; decide) (by rw [c33]; decide) (by rw [c33]; rfl) (by decide) ?_
                                                                    exact hQ
                                                                  · replace hQ := hQ.2 c33
                                                                    by_cases c34 : ((ev_sx g u5.toNatClampNeg) &&& 63) = 32
                                                                    · replace hQ := hQ.1 c34
                                                                      refine ev_tableIn (off := 1758) 1803 dL_law_45 (by rw [c34]; decide) (by rw [c34]; decide) (by rw [c34]; rfl) (by decide) ?_
                                                                      exact hQ
                                                                    · replace hQ := hQ.2 c34
                                                                      by_cases c35 : ((ev_sx g u5.toNatClampNeg) &&& 63) = 33
                                                                      · replace hQ := hQ.1 c35
                                                                        refine ev_tableIn (off := 1814) 1859 dL_law_45 (by rw [c35]; decide) (by rw [c35]; decide) (by rw [c35]; rfl) (by decide) ?_
                                                                        exact hQ
                                                                      · replace hQ := hQ.2 c35
                                                                        by_cases c36 : ((ev_sx g u5.toNatClampNeg) &&& 63) = 34
                                                                        · replace hQ := hQ.1 c36
                                                                          refine ev_tableIn (off := 1870) 1915 dL_law_45 (by rw [c36]; decide) (by rw [c36]; decide) (by rw [c36]; rfl) (by decide) ?_
                                                                          exact hQ
                                                                        · replace hQ := hQ.2 c36
                                                                          by_cases c37 : ((ev_sx g u5.toNatClampNeg) &&& 63) = 35
                                                                          · replace hQ := hQ.1 c37
                                                                            refine ev_tableIn (off := 1883) 1928 dL_law_45 (by rw [c37]; decide) (by rw [c37]; decide) (by rw [c37]; rfl) (by decide) ?_
                                                                            exact hQ
                                                                          · replace hQ := hQ.2 c37
                                                                            by_cases c38 : ((ev_sx g u5.toNatClampNeg) &&& 63) = 36
                                                                            · replace hQ := hQ.1 c38
                                                                              refine ev_tableIn (off := 1939) 1984 dL_law_45 (by rw [c38]; decide) (by rw [c38]; decide) (by rw [c38]; rfl) (by decide) ?_
                                                                              exact hQ
                                                                            · replace hQ := hQ.2 c38
                                                                              by_cases c39 : ((ev_sx g u5.toNatClampNeg) &&& 63) = 37
                                                                              · replace hQ := hQ.1 c39
                                                                                refine ev_tableIn (off := 1995) 2040 dL_law_45 (by rw [c39]; decide) (by rw [c39]; decide) (by rw [c39]; rfl) (by decide) ?_
                                                                                exact hQ
                                                                              · replace hQ := hQ.2 c39
                                                                                by_cases c40 : ((ev_sx g u5.toNatClampNeg) &&& 63) = 38
                                                                                · replace hQ := hQ.1 c40
                                                                                  refine ev_tableIn (off := 2072) 2117 dL_law_45 (by rw [c40]; decide) (by rw [c40]; decide) (by rw [c40]; rfl) (by decide) ?_
                                                                                  exact hQ
                                                                                · replace hQ := hQ.2 c40
                                                                                  by_cases c41 : ((ev_sx g u5.toNatClampNeg) &&& 63) = 39
                                                                                  · replace hQ := hQ.1 c41
                                                                                    refine ev_tableIn (off := 2115) 2160 dL_law_45 (by rw [c41]; decide) (by rw [c41]; decide) (by rw [c41]; rfl) (by decide) ?_
                                                                                    exact hQ
                                                                                  · replace hQ := hQ.2 c41
                                                                                    by_cases c42 : ((ev_sx g u5.toNatClampNeg) &&& 63) = 40
                                                                                    · replace hQ := hQ.1 c42
                                                                                      refine ev_tableIn (off := 2128) 2173 dL_law_45 (by rw [c42]; decide) (by rw [c42]; decide) (by rw [c42]; rfl) (by decide) ?_
                                                                                      exact hQ
                                                                                    · replace hQ := hQ.2 c42
                                                                                      by_cases c43 : ((ev_sx g u5.toNatClampNeg) &&& 63) = 41
                                                                                      · replace hQ := hQ.1 c43
                                                                                        refine ev_tableIn (off := 2184) 2229 dL_law_45 (by rw [c43]; decide) (by rw [c43]; decide) (by rw [c43]; rfl) (by decide) ?_
                                                                                        exact hQ
                                                                                      · replace hQ := hQ.2 c43
                                                                                        by_cases c44 : ((ev_sx g u5.toNatClampNeg) &&& 63) = 42
                                                                                        · replace hQ := hQ.1 c44
                                                                                          refine ev_tableIn (off := 2240) 2285 dL_law_45 (by rw [c44]; decide) (by rw [c44]; decide) (by rw [c44]; rfl) (by decide) ?_
                                                                                          exact hQ
                                                                                        · replace hQ := hQ.2 c44
                                                                                          by_cases c45 : ((ev_sx g u5.toNatClampNeg) &&& 63) = 43
                                                                                          · replace hQ := hQ.1 c45
                                                                                            refine ev_tableIn (off := 2253) 2298 dL_law_45 (by rw [c45]; decide) (by rw [c45]; decide) (by rw [c45]; rfl) (by decide) ?_
                                                                                            exact hQ
                                                                                          · replace hQ := hQ.2 c45
                                                                                            by_cases c46 : ((ev_sx g u5.toNatClampNeg) &&& 63) = 44
                                                                                            · replace hQ := hQ.1 c46
                                                                                              refine ev_tableIn (off := 2309) 2354 dL_law_45 (by rw [c46]; decide) (by rw [c46]; decide) (by rw [c46]; rfl) (by decide) ?_
                                                                                              exact hQ
                                                                                            · replace hQ := hQ.2 c46
                                                                                              by_cases c47 : ((ev_sx g u5.toNatClampNeg) &&& 63) = 45
                                                                                              · replace hQ := hQ.1 c47
                                                                                                refine ev_tableIn (off := 2401) 2446 dL_law_45 (by rw [c47]; decide) (by rw [c47]; decide) (by rw [c47]; rfl) (by decide) ?_
                                                                                                exact hQ
                                                                                              · replace hQ := hQ.2 c47
                                                                                                by_cases c48 : ((ev_sx g u5.toNatClampNeg) &&& 63) = 46
                                                                                                · replace hQ := hQ.1 c48
                                                                                                  refine ev_tableIn (off := 2519) 2564 dL_law_45 (by rw [c48]; decide) (by rw [c48]; decide) (by rw [c48]; rfl) (by decide) ?_
                                                                                                  exact hQ
                                                                                                · replace hQ := hQ.2 c48
                                                                                                  by_cases c49 : ((ev_sx g u5.toNatClampNeg) &&& 63) = 47
                                                                                                  · replace hQ := hQ.1 c49
                                                                                                    refine ev_tableIn (off := 2587) 2632 dL_law_45 (by rw [c49]; decide) (by rw [c49]; decide) (by rw [c49]; rfl) (by decide) ?_
                                                                                                    exact hQ
                                                                                                  · replace hQ := hQ.2 c49
                                                                                                    by_cases c50 : ((ev_sx g u5.toNatClampNeg) &&& 63) = 48
                                                                                                    · replace hQ := hQ.1 c50
                                                                                                      refine ev_tableIn (off := 2643) 2688 dL_law_45 (by rw [c50]; decide) (by rw [c50]; decide) (by rw [c50]; rfl) (by decide) ?_
                                                                                                      exact hQ
                                                                                                    · replace hQ := hQ.2 c50
                                                                                                      by_cases c51 : ((ev_sx g u5.toNatClampNeg) &&& 63) = 49
                                                                                                      · replace hQ := hQ.1 c51
                                                                                                        refine ev_tableIn (off := 2711) 2756 dL_law_45 (by rw [c51]; decide) (by rw [c51]; decide) (by rw [c51]; rfl) (by decide) ?_
                                                                                                        exact hQ
                                                                                                      · replace hQ := hQ.2 c51
                                                                                                        by_cases c52 : ((ev_sx g u5.toNatClampNeg) &&& 63) = 50
                                                                                                        · replace hQ := hQ.1 c52
                                                                                                          refine ev_tableIn (off := 2791) 2836 dL_law_45 (by rw [c52]; decide) (by rw [c52]; decide) (by rw [c52]; rfl) (by decide) ?_
                                                                                                          exact hQ
                                                                                                        · replace hQ := hQ.2 c52
                                                                                                          by_cases c53 : ((ev_sx g u5.toNatClampNeg) &&& 63) = 51
                                                                                                          · replace hQ := hQ.1 c53
                                                                                                            refine ev_tableIn (off := 2847) 2892 dL_law_45 (by rw [c53]; decide) (by rw [c53]; decide) (by rw [c53]; rfl) (by decide) ?_
                                                                                                            exact hQ
                                                                                                          · replace hQ := hQ.2 c53
                                                                                                            by_cases c54 : ((ev_sx g u5.toNatClampNeg) &&& 63) = 52
                                                                                                            · replace hQ := hQ.1 c54
                                                                                                              refine ev_tableIn (off := 2903) 2948 dL_law_45 (by rw [c54]; decide) (by rw [c54]; decide) (by rw [c54]; rfl) (by decide) ?_
                                                                                                              exact hQ
                                                                                                            · replace hQ := hQ.2 c54
                                                                                                              by_cases c55 : ((ev_sx g u5.toNatClampNeg) &&& 63) = 53
                                                                                                              · replace hQ := hQ.1 c55
                                                                                                                refine ev_tableIn (off := 2928) 2973 dL_law_45 (by rw [c55]; decide) (by rw [c55]; decide) (by rw [c55]; rfl) (by decide) ?_
                                                                                                                exact hQ
                                                                                                              · replace hQ := hQ.2 c55
                                                                                                                by_cases c56 : ((ev_sx g u5.toNatClampNeg) &&& 63) = 54
                                                                                                                · replace hQ := hQ.1 c56
                                                                                                                  refine ev_tableIn (off := 2941) 2986 dL_law_45 (by rw [c56]; decide) (by rw [c56]; decide) (by rw [c56]; rfl) (by decide) ?_
                                                                                                                  exact hQ
                                                                                                                · replace hQ := hQ.2 c56
                                                                                                                  by_cases c57 : ((ev_sx g u5.toNatClampNeg) &&& 63) = 55
                                                                                                                  · replace hQ := hQ.1 c57
                                                                                                                    refine ev_tableIn (off := 2985) 3030 dL_law_45 (by rw [c57]; decide) (by rw [c57]; decide) (by rw [c57]; rfl) (by decide) ?_
                                                                                                                    exact hQ
                                                                                                                  · replace hQ := hQ.2 c57
                                                                                                                    by_cases c58 : ((ev_sx g u5.toNatClampNeg) &&& 63) = 56
                                                                                                                    · replace hQ := hQ.1 c58
                                                                                                                      refine ev_tableIn (off := 3041) 3086 dL_law_45 (by rw [c58]; decide) (by rw [c58]; decide) (by rw [c58]; rfl) (by decide) ?_
                                                                                                                      exact hQ
                                                                                                                    · replace hQ := hQ.2 c58
                                                                                                                      refine ev_tableOut 3142 dL_law_45 (j_out0 (fun k h1 h2 h3 => by
                                                                                                                          have h4 : k = 0 ∨ k = 1 ∨ k = 2 ∨ k = 3 ∨ k = 4 ∨ k = 5 ∨ k = 6 ∨ k = 7 ∨ k = 8 ∨ k = 9 ∨ k = 10 ∨ k = 11 ∨ k = 12 ∨ k = 13 ∨ k = 14 ∨ k = 15 ∨ k = 16 ∨ k = 17 ∨ k = 18 ∨ k = 19 ∨ k = 20 ∨ k = 21 ∨ k = 22 ∨ k = 23 ∨ k = 24 ∨ k = 25 ∨ k = 26 ∨ k = 27 ∨ k = 28 ∨ k = 29 ∨ k = 30 ∨ k = 31 ∨ k = 32 ∨ k = 33 ∨ k = 34 ∨ k = 35 ∨ k = 36 ∨ k = 37 ∨ k = 38 ∨ k = 39 ∨ k = 40 ∨ k = 41 ∨ k = 42 ∨ k = 43 ∨ k = 44 ∨ k = 45 ∨ k = 46 ∨ k = 47 ∨ k = 48 ∨ k = 49 ∨ k = 50 ∨ k = 51 ∨ k = 52 ∨ k = 53 ∨ k = 54 ∨ k = 55 ∨ k = 56 := by omega
                                                                                                                          rcases h4 with rfl | rfl | rfl | rfl | rfl | rfl | rfl | rfl | rfl | rfl | rfl | rfl | rfl | rfl | rfl | rfl | rfl | rfl | rfl | rfl | rfl | rfl | rfl | rfl | rfl | rfl | rfl | rfl | rfl | rfl | rfl | rfl | rfl | rfl | rfl | rfl | rfl | rfl | rfl | rfl | rfl | rfl | rfl | rfl | rfl | rfl | rfl | rfl | rfl | rfl | rfl | rfl | rfl | rfl | rfl | rfl | rfl
                                                                                                                          · exact c2 (h3.trans (by decide))
                                                                                                                          · exact c3 (h3.trans (by decide))
                                                                                                                          · exact c4 (h3.trans (by decide))
                                                                                                                          · exact c5 (h3.trans (by decide))
                                                                                                                          · exact c6 (h3.trans (by decide))
                                                                                                                          · exact c7 (h3.trans (by decide))
                                                                                                                          · exact c8 (h3.trans (by decide))
                                                                                                                          · exact c9 (h3.trans (by decide))
                                                                                                                          · exact c10 (h3.trans (by decide))
                                                                                                                          · exact c11 (h3.trans (by decide))
                                                                                                                          · exact c12 (h3.trans (by decide))
                                                                                                                          · exact c13 (h3.trans (by decide))
                                                                                                                          · exact c14 (h3.trans (by decide))
                                                                                                                          · exact c15 (h3.trans (by decide))
                                                                                                                          · exact c16 (h3.trans (by decide))
                                                                                                                          · exact c17 (h3.trans (by decide))
                                                                                                                          · exact c18 (h3.trans (by decide))
                                                                                                                          · exact c19 (h3.trans (by decide))
                                                                                                                          · exact c20 (h3.trans (by decide))
                                                                                                                          · exact c21 (h3.trans (by decide))
                                                                                                                          · exact c22 (h3.trans (by decide))
                                                                                                                          · exact c23 (h3.trans (by decide))
                                                                                                                          · exact c24 (h3.trans (by decide))
                                                                                                                          · exact c25 (h3.trans (by decide))
                                                                                                                          · exact c26 (h3.trans (by decide))
                                                                                                                          · exact c27 (h3.trans (by decide))
                                                                                                                          · exact c28 (h3.trans (by decide))
                                                                                                                          · exact c29 (h3.trans (by decide))
                                                                                                                          · exact c30 (h3.trans (by decide))
                                                                                                                          · exact c31 (h3.trans (by decide))
                                                                                                                          · exact c32 (h3.trans (by decide))
                                                                                                                          · exact c33 (h3.trans (by decide))
                                                                                                                          · exact c34 (h3.trans (by decide))
                                                                                                                          · exact c35 (h3.trans (by decide))
                                                                                                                          · exact c36 (h3.trans (by decide))
                                                                                                                          · exact c37 (h3.trans (by decide))
                                                                                                                          · exact c38 (h3.trans (by decide))
                                                                                                                          · exact c39 (h3.trans (by decide))
                                                                                                                          · exact c40 (h3.trans (by decide))
                                                                                                                          · exact c41 (h3.trans (by decide))
                                                                                                                          · exact c42 (h3.trans (by decide))
                                                                                                                          · exact c43 (h3.trans (by decide))
                                                                                                                          · exact c44 (h3.trans (by decide))
                                                                                                                          · exact c45 (h3.trans (by decide))
                                                                                                                          · exact c46 (h3.trans (by decide))
                                                                                                                          · exact c47 (h3.trans (by decide))
                                                                                                                          · exact c48 (h3.trans (by decide))
                                                                                                                          · exact c49 (h3.trans (by decide))
                                                                                                                          · exact c50 (h3.trans (by decide))
                                                                                                                          · exact c51 (h3.trans (by decide))
                                                                                                                          · exact c52 (h3.trans (by decide))
                                                                                                                          · exact c53 (h3.trans (by decide))
                                                                                                                          · exact c54 (h3.trans (by decide))
                                                                                                                          · exact c55 (h3.trans (by decide))
                                                                                                                          · exact c56 (h3.trans (by decide))
                                                                                                                          · exact c57 (h3.trans (by decide))
                                                                                                                          · exact c58 (h3.trans (by decide)))) (by decide) ?_
                                                                                                                      exact hQ
set_option maxHeartbeats 4000000 in
set_option maxRecDepth 100000 in
theorem sg_L_law_288 {g : ev_G} {S : ev_S} {Q : ev_O → ev_S → Prop} {B : Nat} (k0 a b o1 o2 : Nat) (u5 : Int32) (hQ : (vp_in (u5 + 1) (ev_sl g)) ∧ (
    (vp_in (u5 + 2) (ev_sl g)) ∧ (
      (vp_in (u5 + 3) (ev_sl g)) ∧ (
        (vp_in (u5 + 4) (ev_sl g)) ∧ (
          (vp_in (u5 + 5) (ev_sl g)) ∧ (
            ev_Cv g m_L_append 5 1 [ev_o 9 a, ev_i (ev_sx g (u5 + 1).toNatClampNeg), ev_i (ev_sx g (u5 + 2).toNatClampNeg), ev_i (ev_sx g (u5 + 3).toNatClampNeg), ev_i (ev_sx g (u5 + 4).toNatClampNeg), ev_i (ev_sx g (u5 + 5).toNatClampNeg), ev_o 21 o1] S (fun o S1 => ∃ v1_ : Int32, o = .inl (some (ev_i v1_)) ∧ (
              ev_Cv g m_X10_append 2 0 [ev_o 10 b, ev_i (ev_sx g (u5 + 1).toNatClampNeg), ev_i (ev_sx g (u5 + 2).toNatClampNeg), ev_i (ev_sx g (u5 + 3).toNatClampNeg), ev_i (ev_sx g (u5 + 4).toNatClampNeg), ev_i (ev_sx g (u5 + 5).toNatClampNeg)] S1 (fun o S2 => ∃ v2_ : Int32, o = .inl (some (ev_i v2_)) ∧ (
                ((S2.1 b 7) = v1_ → (
                  (v1_ = 0 → (
                    ((lg_cmp S2.2.1 v2_.toInt64) = 0 → (
                      ev_E g m_L_law 52 (B + 1) 3142 [some (ev_x 0 k0), some (ev_o 9 a), some (ev_o 10 b), some (ev_o 21 o1), some (ev_o 22 o2), some (ev_i u5), none, none, none, none] [] S2 Q)) ∧
                    (¬ ((lg_cmp S2.2.1 v2_.toInt64) = 0) → (
                      Q (.inl (some (ev_i 0))) S2)))) ∧
                  (¬ (v1_ = 0) → (
                    ev_E g m_L_law 52 (B + 1) 3142 [some (ev_x 0 k0), some (ev_o 9 a), some (ev_o 10 b), some (ev_o 21 o1), some (ev_o 22 o2), some (ev_i u5), none, none, none, none] [] S2 Q)))) ∧
                (¬ ((S2.1 b 7) = v1_) → (
                  Q (.inl (some (ev_i 0))) S2)))))))))))) : ev_E g m_L_law 52 (B + 2) 288 [some (ev_x 0 k0), some (ev_o 9 a), some (ev_o 10 b), some (ev_o 21 o1), some (ev_o 22 o2), some (ev_i u5), none, none, none, none] [] S Q := by
  refine ev_aload_n (ev_o 9 a) dL_law_288 rfl rfl ?_
  refine ev_aload_n (ev_x 0 k0) dL_law_289 rfl rfl ?_
  refine ev_iload (u5) dL_law_290 rfl ?_
  refine ev_iconst (1) dL_law_292 rfl ?_
  refine ev_iadd dL_law_293 ?_
  obtain ⟨h1, hQ⟩ := hQ
  refine ev_sld dL_law_294 h1 ?_
  refine ev_aload_n (ev_x 0 k0) dL_law_295 rfl rfl ?_
  refine ev_iload (u5) dL_law_296 rfl ?_
  refine ev_iconst (2) dL_law_298 rfl ?_
  refine ev_iadd dL_law_299 ?_
  obtain ⟨h2, hQ⟩ := hQ
  refine ev_sld dL_law_300 h2 ?_
  refine ev_aload_n (ev_x 0 k0) dL_law_301 rfl rfl ?_
  refine ev_iload (u5) dL_law_302 rfl ?_
  refine ev_iconst (3) dL_law_304 rfl ?_
  refine ev_iadd dL_law_305 ?_
  obtain ⟨h3, hQ⟩ := hQ
  refine ev_sld dL_law_306 h3 ?_
  refine ev_aload_n (ev_x 0 k0) dL_law_307 rfl rfl ?_
  refine ev_iload (u5) dL_law_308 rfl ?_
  refine ev_iconst (4) dL_law_310 rfl ?_
  refine ev_iadd dL_law_311 ?_
  obtain ⟨h4, hQ⟩ := hQ
  refine ev_sld dL_law_312 h4 ?_
  refine ev_aload_n (ev_x 0 k0) dL_law_313 rfl rfl ?_
  refine ev_iload (u5) dL_law_314 rfl ?_
  refine ev_iconst (5) dL_law_316 rfl ?_
  refine ev_iadd dL_law_317 ?_
  obtain ⟨h5, hQ⟩ := hQ
  refine ev_sld dL_law_318 h5 ?_
  refine ev_aload_n (ev_o 21 o1) dL_law_319 rfl rfl ?_
  refine ev_cH mh_L_append 5 1 [ev_o 9 a, ev_i (ev_sx g (u5 + 1).toNatClampNeg), ev_i (ev_sx g (u5 + 2).toNatClampNeg), ev_i (ev_sx g (u5 + 3).toNatClampNeg), ev_i (ev_sx g (u5 + 4).toNatClampNeg), ev_i (ev_sx g (u5 + 5).toNatClampNeg), ev_o 21 o1] [] dL_law_320 kw_1218 rfl (by decide) (by omega) (Nat.le_of_ble_eq_true rfl) hQ ?_ rfl
  rintro o S1 ⟨v1_, rfl, hQ⟩
  show ev_E g m_L_law 52 (B + 1) 323 [some (ev_x 0 k0), some (ev_o 9 a), some (ev_o 10 b), some (ev_o 21 o1), some (ev_o 22 o2), some (ev_i u5), none, none, none, none] [ev_i v1_] S1 Q
  refine ev_istore dL_law_323 (Nat.le_of_ble_eq_true rfl) (ev_hw rfl) ?_
  show ev_E g m_L_law 52 (B + 1) 325 [some (ev_x 0 k0), some (ev_o 9 a), some (ev_o 10 b), some (ev_o 21 o1), some (ev_o 22 o2), some (ev_i u5), some (ev_i v1_), none, none, none] [] S1 Q
  refine ev_aload_n (ev_o 10 b) dL_law_325 rfl rfl ?_
  refine ev_aload_n (ev_x 0 k0) dL_law_326 rfl rfl ?_
  refine ev_iload (u5) dL_law_327 rfl ?_
  refine ev_iconst (1) dL_law_329 rfl ?_
  refine ev_iadd dL_law_330 ?_
  refine ev_sld dL_law_331 h1 ?_
  refine ev_aload_n (ev_x 0 k0) dL_law_332 rfl rfl ?_
  refine ev_iload (u5) dL_law_333 rfl ?_
  refine ev_iconst (2) dL_law_335 rfl ?_
  refine ev_iadd dL_law_336 ?_
  refine ev_sld dL_law_337 h2 ?_
  refine ev_aload_n (ev_x 0 k0) dL_law_338 rfl rfl ?_
  refine ev_iload (u5) dL_law_339 rfl ?_
  refine ev_iconst (3) dL_law_341 rfl ?_
  refine ev_iadd dL_law_342 ?_
  refine ev_sld dL_law_343 h3 ?_
  refine ev_aload_n (ev_x 0 k0) dL_law_344 rfl rfl ?_
  refine ev_iload (u5) dL_law_345 rfl ?_
  refine ev_iconst (4) dL_law_347 rfl ?_
  refine ev_iadd dL_law_348 ?_
  refine ev_sld dL_law_349 h4 ?_
  refine ev_aload_n (ev_x 0 k0) dL_law_350 rfl rfl ?_
  refine ev_iload (u5) dL_law_351 rfl ?_
  refine ev_iconst (5) dL_law_353 rfl ?_
  refine ev_iadd dL_law_354 ?_
  refine ev_sld dL_law_355 h5 ?_
  refine ev_cV mv_X10_append 2 0 10 [ev_i (ev_sx g (u5 + 1).toNatClampNeg), ev_i (ev_sx g (u5 + 2).toNatClampNeg), ev_i (ev_sx g (u5 + 3).toNatClampNeg), ev_i (ev_sx g (u5 + 4).toNatClampNeg), ev_i (ev_sx g (u5 + 5).toNatClampNeg)] [] dL_law_356 kw_1943 rfl (by decide) rfl (by decide) (by omega) (Nat.le_of_ble_eq_true rfl) hQ ?_ rfl
  rintro o S2 ⟨v2_, rfl, hQ⟩
  show ev_E g m_L_law 52 (B + 1) 359 [some (ev_x 0 k0), some (ev_o 9 a), some (ev_o 10 b), some (ev_o 21 o1), some (ev_o 22 o2), some (ev_i u5), some (ev_i v1_), none, none, none] [ev_i v2_] S2 Q
  refine ev_istore dL_law_359 (Nat.le_of_ble_eq_true rfl) (ev_hw rfl) ?_
  show ev_E g m_L_law 52 (B + 1) 361 [some (ev_x 0 k0), some (ev_o 9 a), some (ev_o 10 b), some (ev_o 21 o1), some (ev_o 22 o2), some (ev_i u5), some (ev_i v1_), some (ev_i v2_), none, none] [] S2 Q
  refine ev_aload_n (ev_o 10 b) dL_law_361 rfl rfl ?_
  refine ev_fV mv_X10_thrown 1 10 [] [] dL_law_362 kw_1939 rfl (by decide) rfl (by decide) (Nat.le_of_ble_eq_true rfl) (sp_X10_thrown b) ?_ rfl
  refine ev_iload (v1_) dL_law_365 rfl ?_
  refine ev_icmp_eq 372 dL_law_367 (by decide) (fun c1 => ?_) (fun c1 => ?_)
  · replace hQ := hQ.1 c1
    refine ev_iload (v1_) dL_law_372 rfl ?_
    refine ev_if_ne 389 dL_law_374 (by decide) (fun c2 => ?_) (fun c2 => ?_)
    · replace hQ := hQ.2 c2
      refine ev_goto 3142 dL_law_389 (by decide) ?_
      refine ev_fgm [true, true, true, true, true, true, false, false, false, false] ?_
      exact hQ
    · replace hQ := hQ.1 c2
      refine ev_aload_n (ev_o 21 o1) dL_law_377 rfl rfl ?_
      refine ev_iconst (0) dL_law_378 rfl ?_
      refine ev_laload dL_law_379 ?_
      refine ev_iload (v2_) dL_law_380 rfl ?_
      refine ev_i2l dL_law_382 ?_
      refine ev_lcmp dL_law_383 ?_
      refine ev_if_eq 389 dL_law_384 (by decide) (fun c3 => ?_) (fun c3 => ?_)
      · replace hQ := hQ.1 c3
        refine ev_goto 3142 dL_law_389 (by decide) ?_
        refine ev_fgm [true, true, true, true, true, true, false, false, false, false] ?_
        exact hQ
      · replace hQ := hQ.2 c3
        refine ev_iconst (0) dL_law_387 rfl ?_
        exact ev_ireturn .boolean dL_law_388 rfl rfl hQ
  · replace hQ := hQ.2 c1
    refine ev_iconst (0) dL_law_370 rfl ?_
    exact ev_ireturn .boolean dL_law_371 rfl rfl hQ
set_option maxHeartbeats 4000000 in
set_option maxRecDepth 100000 in
theorem sg_L_law_392 {g : ev_G} {S : ev_S} {Q : ev_O → ev_S → Prop} {B : Nat} (k0 a b o1 o2 : Nat) (u5 : Int32) (hQ : (vp_in (u5 + 1) (ev_sl g)) ∧ (
    ev_Cv g m_L_truncate 3 1 [ev_o 9 a, ev_i (ev_sx g (u5 + 1).toNatClampNeg), ev_o 21 o1] S (fun o S1 => ∃ v1_ : Int32, o = .inl (some (ev_i v1_)) ∧ (
      ev_Cv g m_X10_truncate 2 0 [ev_o 10 b, ev_i (ev_sx g (u5 + 1).toNatClampNeg)] S1 (fun o S2 => ∃ v2_ : Int32, o = .inl (some (ev_i v2_)) ∧ (
        ((S2.1 b 7) = v1_ → (
          (v1_ = 0 → (
            ((lg_cmp S2.2.1 v2_.toInt64) = 0 → (
              ev_E g m_L_law 52 (B + 1) 3142 [some (ev_x 0 k0), some (ev_o 9 a), some (ev_o 10 b), some (ev_o 21 o1), some (ev_o 22 o2), some (ev_i u5), none, none, none, none] [] S2 Q)) ∧
            (¬ ((lg_cmp S2.2.1 v2_.toInt64) = 0) → (
              Q (.inl (some (ev_i 0))) S2)))) ∧
          (¬ (v1_ = 0) → (
            ev_E g m_L_law 52 (B + 1) 3142 [some (ev_x 0 k0), some (ev_o 9 a), some (ev_o 10 b), some (ev_o 21 o1), some (ev_o 22 o2), some (ev_i u5), none, none, none, none] [] S2 Q)))) ∧
        (¬ ((S2.1 b 7) = v1_) → (
          Q (.inl (some (ev_i 0))) S2)))))))) : ev_E g m_L_law 52 (B + 2) 392 [some (ev_x 0 k0), some (ev_o 9 a), some (ev_o 10 b), some (ev_o 21 o1), some (ev_o 22 o2), some (ev_i u5), none, none, none, none] [] S Q := by
  refine ev_aload_n (ev_o 9 a) dL_law_392 rfl rfl ?_
  refine ev_aload_n (ev_x 0 k0) dL_law_393 rfl rfl ?_
  refine ev_iload (u5) dL_law_394 rfl ?_
  refine ev_iconst (1) dL_law_396 rfl ?_
  refine ev_iadd dL_law_397 ?_
  obtain ⟨h1, hQ⟩ := hQ
  refine ev_sld dL_law_398 h1 ?_
  refine ev_aload_n (ev_o 21 o1) dL_law_399 rfl rfl ?_
  refine ev_cH mh_L_truncate 3 1 [ev_o 9 a, ev_i (ev_sx g (u5 + 1).toNatClampNeg), ev_o 21 o1] [] dL_law_400 kw_1305 rfl (by decide) (by omega) (Nat.le_of_ble_eq_true rfl) hQ ?_ rfl
  rintro o S1 ⟨v1_, rfl, hQ⟩
  show ev_E g m_L_law 52 (B + 1) 403 [some (ev_x 0 k0), some (ev_o 9 a), some (ev_o 10 b), some (ev_o 21 o1), some (ev_o 22 o2), some (ev_i u5), none, none, none, none] [ev_i v1_] S1 Q
  refine ev_istore dL_law_403 (Nat.le_of_ble_eq_true rfl) (ev_hw rfl) ?_
  show ev_E g m_L_law 52 (B + 1) 405 [some (ev_x 0 k0), some (ev_o 9 a), some (ev_o 10 b), some (ev_o 21 o1), some (ev_o 22 o2), some (ev_i u5), some (ev_i v1_), none, none, none] [] S1 Q
  refine ev_aload_n (ev_o 10 b) dL_law_405 rfl rfl ?_
  refine ev_aload_n (ev_x 0 k0) dL_law_406 rfl rfl ?_
  refine ev_iload (u5) dL_law_407 rfl ?_
  refine ev_iconst (1) dL_law_409 rfl ?_
  refine ev_iadd dL_law_410 ?_
  refine ev_sld dL_law_411 h1 ?_
  refine ev_cV mv_X10_truncate 2 0 10 [ev_i (ev_sx g (u5 + 1).toNatClampNeg)] [] dL_law_412 kw_1955 rfl (by decide) rfl (by decide) (by omega) (Nat.le_of_ble_eq_true rfl) hQ ?_ rfl
  rintro o S2 ⟨v2_, rfl, hQ⟩
  show ev_E g m_L_law 52 (B + 1) 415 [some (ev_x 0 k0), some (ev_o 9 a), some (ev_o 10 b), some (ev_o 21 o1), some (ev_o 22 o2), some (ev_i u5), some (ev_i v1_), none, none, none] [ev_i v2_] S2 Q
  refine ev_istore dL_law_415 (Nat.le_of_ble_eq_true rfl) (ev_hw rfl) ?_
  show ev_E g m_L_law 52 (B + 1) 417 [some (ev_x 0 k0), some (ev_o 9 a), some (ev_o 10 b), some (ev_o 21 o1), some (ev_o 22 o2), some (ev_i u5), some (ev_i v1_), some (ev_i v2_), none, none] [] S2 Q
  refine ev_aload_n (ev_o 10 b) dL_law_417 rfl rfl ?_
  refine ev_fV mv_X10_thrown 1 10 [] [] dL_law_418 kw_1939 rfl (by decide) rfl (by decide) (Nat.le_of_ble_eq_true rfl) (sp_X10_thrown b) ?_ rfl
  refine ev_iload (v1_) dL_law_421 rfl ?_
  refine ev_icmp_eq 428 dL_law_423 (by decide) (fun c1 => ?_) (fun c1 => ?_)
  · replace hQ := hQ.1 c1
    refine ev_iload (v1_) dL_law_428 rfl ?_
    refine ev_if_ne 445 dL_law_430 (by decide) (fun c2 => ?_) (fun c2 => ?_)
    · replace hQ := hQ.2 c2
      refine ev_goto 3142 dL_law_445 (by decide) ?_
      refine ev_fgm [true, true, true, true, true, true, false, false, false, false] ?_
      exact hQ
    · replace hQ := hQ.1 c2
      refine ev_aload_n (ev_o 21 o1) dL_law_433 rfl rfl ?_
      refine ev_iconst (0) dL_law_434 rfl ?_
      refine ev_laload dL_law_435 ?_
      refine ev_iload (v2_) dL_law_436 rfl ?_
      refine ev_i2l dL_law_438 ?_
      refine ev_lcmp dL_law_439 ?_
      refine ev_if_eq 445 dL_law_440 (by decide) (fun c3 => ?_) (fun c3 => ?_)
      · replace hQ := hQ.1 c3
        refine ev_goto 3142 dL_law_445 (by decide) ?_
        refine ev_fgm [true, true, true, true, true, true, false, false, false, false] ?_
        exact hQ
      · replace hQ := hQ.2 c3
        refine ev_iconst (0) dL_law_443 rfl ?_
        exact ev_ireturn .boolean dL_law_444 rfl rfl hQ
  · replace hQ := hQ.2 c1
    refine ev_iconst (0) dL_law_426 rfl ?_
    exact ev_ireturn .boolean dL_law_427 rfl rfl hQ
set_option maxHeartbeats 4000000 in
set_option maxRecDepth 100000 in
theorem sg_L_law_448 {g : ev_G} {S : ev_S} {Q : ev_O → ev_S → Prop} {B : Nat} (k0 a b o1 o2 : Nat) (u5 : Int32) (hQ : ev_Cv g m_X9_load 8 0 [ev_o 9 a] S (fun o S1 => ∃ v1_ : Int32, o = .inl (some (ev_i v1_)) ∧ (
    ev_Cv g m_X10_load 8 0 [ev_o 10 b] S1 (fun o S2 => ∃ v2_ : Int32, o = .inl (some (ev_i v2_)) ∧ (
      (v1_ = v2_ → (
        ev_E g m_L_law 52 (B + 2) 3142 [some (ev_x 0 k0), some (ev_o 9 a), some (ev_o 10 b), some (ev_o 21 o1), some (ev_o 22 o2), some (ev_i u5), none, none, none, none] [] S2 Q)) ∧
      (¬ (v1_ = v2_) → (
        Q (.inl (some (ev_i 0))) S2))))))) : ev_E g m_L_law 52 (B + 2) 448 [some (ev_x 0 k0), some (ev_o 9 a), some (ev_o 10 b), some (ev_o 21 o1), some (ev_o 22 o2), some (ev_i u5), none, none, none, none] [] S Q := by
  refine ev_aload_n (ev_o 9 a) dL_law_448 rfl rfl ?_
  refine ev_cV mv_X9_load 8 0 9 [] [] dL_law_449 kw_725 rfl (by decide) rfl (by decide) (by omega) (Nat.le_of_ble_eq_true rfl) hQ ?_ rfl
  rintro o S1 ⟨v1_, rfl, hQ⟩
  show ev_E g m_L_law 52 (B + 2) 452 [some (ev_x 0 k0), some (ev_o 9 a), some (ev_o 10 b), some (ev_o 21 o1), some (ev_o 22 o2), some (ev_i u5), none, none, none, none] [ev_i v1_] S1 Q
  refine ev_aload_n (ev_o 10 b) dL_law_452 rfl rfl ?_
  refine ev_cV mv_X10_load 8 0 10 [] [ev_i v1_] dL_law_453 kw_1967 rfl (by decide) rfl (by decide) (by omega) (Nat.le_of_ble_eq_true rfl) hQ ?_ rfl
  rintro o S2 ⟨v2_, rfl, hQ⟩
  show ev_E g m_L_law 52 (B + 2) 456 [some (ev_x 0 k0), some (ev_o 9 a), some (ev_o 10 b), some (ev_o 21 o1), some (ev_o 22 o2), some (ev_i u5), none, none, none, none] [ev_i v2_, ev_i v1_] S2 Q
  refine ev_icmp_eq 3142 dL_law_456 (by decide) (fun c1 => ?_) (fun c1 => ?_)
  · replace hQ := hQ.1 c1
    exact hQ
  · replace hQ := hQ.2 c1
    refine ev_iconst (0) dL_law_459 rfl ?_
    exact ev_ireturn .boolean dL_law_460 rfl rfl hQ
set_option maxHeartbeats 4000000 in
set_option maxRecDepth 100000 in
theorem sg_L_law_461 {g : ev_G} {S : ev_S} {Q : ev_O → ev_S → Prop} {B : Nat} (k0 a b o1 o2 : Nat) (u5 : Int32) (hQ : ev_Cv g m_X9_runScript 9 0 [ev_o 9 a] S (fun o S1 => ∃ v1_ : Int32, o = .inl (some (ev_i v1_)) ∧ (
    ev_Cv g m_X10_runScript 51 0 [ev_o 10 b] S1 (fun o S2 => ∃ v2_ : Int32, o = .inl (some (ev_i v2_)) ∧ (
      (v1_ = v2_ → (
        ev_E g m_L_law 52 (B + 2) 3142 [some (ev_x 0 k0), some (ev_o 9 a), some (ev_o 10 b), some (ev_o 21 o1), some (ev_o 22 o2), some (ev_i u5), none, none, none, none] [] S2 Q)) ∧
      (¬ (v1_ = v2_) → (
        Q (.inl (some (ev_i 0))) S2))))))) : ev_E g m_L_law 52 (B + 2) 461 [some (ev_x 0 k0), some (ev_o 9 a), some (ev_o 10 b), some (ev_o 21 o1), some (ev_o 22 o2), some (ev_i u5), none, none, none, none] [] S Q := by
  refine ev_aload_n (ev_o 9 a) dL_law_461 rfl rfl ?_
  refine ev_cV mv_X9_runScript 9 0 9 [] [] dL_law_462 kw_745 rfl (by decide) rfl (by decide) (by omega) (Nat.le_of_ble_eq_true rfl) hQ ?_ rfl
  rintro o S1 ⟨v1_, rfl, hQ⟩
  show ev_E g m_L_law 52 (B + 2) 465 [some (ev_x 0 k0), some (ev_o 9 a), some (ev_o 10 b), some (ev_o 21 o1), some (ev_o 22 o2), some (ev_i u5), none, none, none, none] [ev_i v1_] S1 Q
  refine ev_aload_n (ev_o 10 b) dL_law_465 rfl rfl ?_
  refine ev_cV mv_X10_runScript 51 0 10 [] [ev_i v1_] dL_law_466 kw_1975 rfl (by decide) rfl (by decide) (by omega) (Nat.le_of_ble_eq_true rfl) hQ ?_ rfl
  rintro o S2 ⟨v2_, rfl, hQ⟩
  show ev_E g m_L_law 52 (B + 2) 469 [some (ev_x 0 k0), some (ev_o 9 a), some (ev_o 10 b), some (ev_o 21 o1), some (ev_o 22 o2), some (ev_i u5), none, none, none, none] [ev_i v2_, ev_i v1_] S2 Q
  refine ev_icmp_eq 3142 dL_law_469 (by decide) (fun c1 => ?_) (fun c1 => ?_)
  · replace hQ := hQ.1 c1
    exact hQ
  · replace hQ := hQ.2 c1
    refine ev_iconst (0) dL_law_472 rfl ?_
    exact ev_ireturn .boolean dL_law_473 rfl rfl hQ
set_option maxHeartbeats 4000000 in
set_option maxRecDepth 100000 in
theorem sg_L_law_474 {g : ev_G} {S : ev_S} {Q : ev_O → ev_S → Prop} {B : Nat} (k0 a b o1 o2 : Nat) (u5 : Int32) (hQ : ∀ S1 : ev_S, S1 = (ev_up S b 7 0) → (
    ((S.1 a 10) = (S.1 b 11) → (
      ev_E g m_L_law 52 (B + 2) 3142 [some (ev_x 0 k0), some (ev_o 9 a), some (ev_o 10 b), some (ev_o 21 o1), some (ev_o 22 o2), some (ev_i u5), none, none, none, none] [] S1 Q)) ∧
    (¬ ((S.1 a 10) = (S.1 b 11)) → (
      Q (.inl (some (ev_i 0))) S1)))) : ev_E g m_L_law 52 (B + 2) 474 [some (ev_x 0 k0), some (ev_o 9 a), some (ev_o 10 b), some (ev_o 21 o1), some (ev_o 22 o2), some (ev_i u5), none, none, none, none] [] S Q := by
  refine ev_aload_n (ev_o 9 a) dL_law_474 rfl rfl ?_
  refine ev_fV mv_X9_errorCode 1 9 [] [] dL_law_475 kw_1083 rfl (by decide) rfl (by decide) (Nat.le_of_ble_eq_true rfl) (sp_X9_errorCode a) ?_ rfl
  refine ev_aload_n (ev_o 10 b) dL_law_478 rfl rfl ?_
  refine ev_fV mv_X10_errorCode 1 10 [] [ev_i (S.1 a 10)] dL_law_479 kw_1959 rfl (by decide) rfl (by decide) (Nat.le_of_ble_eq_true rfl) (sp_X10_errorCode b) ?_ rfl
  refine ev_sub hQ (fun S1 hS1 hQ => ?_)
  refine ev_E.goal (pc' := 482) (L' := [some (ev_x 0 k0), some (ev_o 9 a), some (ev_o 10 b), some (ev_o 21 o1), some (ev_o 22 o2), some (ev_i u5), none, none, none, none]) (K' := [ev_i (S.1 b 11), ev_i (S.1 a 10)]) (S' := S1) ?_ rfl rfl rfl hS1
  refine ev_icmp_eq 3142 dL_law_482 (by decide) (fun c1 => ?_) (fun c1 => ?_)
  · replace hQ := hQ.1 c1
    exact hQ
  · replace hQ := hQ.2 c1
    refine ev_iconst (0) dL_law_485 rfl ?_
    exact ev_ireturn .boolean dL_law_486 rfl rfl hQ
set_option maxHeartbeats 4000000 in
set_option maxRecDepth 100000 in
theorem sg_L_law_487 {g : ev_G} {S : ev_S} {Q : ev_O → ev_S → Prop} {B : Nat} (k0 a b o1 o2 : Nat) (u5 : Int32) (hQ : ∀ S1 : ev_S, S1 = (ev_up S b 7 0) → (
    ((S.1 a 11) = (S.1 b 12) → (
      ev_E g m_L_law 52 (B + 2) 3142 [some (ev_x 0 k0), some (ev_o 9 a), some (ev_o 10 b), some (ev_o 21 o1), some (ev_o 22 o2), some (ev_i u5), none, none, none, none] [] S1 Q)) ∧
    (¬ ((S.1 a 11) = (S.1 b 12)) → (
      Q (.inl (some (ev_i 0))) S1)))) : ev_E g m_L_law 52 (B + 2) 487 [some (ev_x 0 k0), some (ev_o 9 a), some (ev_o 10 b), some (ev_o 21 o1), some (ev_o 22 o2), some (ev_i u5), none, none, none, none] [] S Q := by
  refine ev_aload_n (ev_o 9 a) dL_law_487 rfl rfl ?_
  refine ev_fV mv_X9_errorPosition 1 9 [] [] dL_law_488 kw_1087 rfl (by decide) rfl (by decide) (Nat.le_of_ble_eq_true rfl) (sp_X9_errorPosition a) ?_ rfl
  refine ev_aload_n (ev_o 10 b) dL_law_491 rfl rfl ?_
  refine ev_fV mv_X10_errorPosition 1 10 [] [ev_i (S.1 a 11)] dL_law_492 kw_1963 rfl (by decide) rfl (by decide) (Nat.le_of_ble_eq_true rfl) (sp_X10_errorPosition b) ?_ rfl
  refine ev_sub hQ (fun S1 hS1 hQ => ?_)
  refine ev_E.goal (pc' := 495) (L' := [some (ev_x 0 k0), some (ev_o 9 a), some (ev_o 10 b), some (ev_o 21 o1), some (ev_o 22 o2), some (ev_i u5), none, none, none, none]) (K' := [ev_i (S.1 b 12), ev_i (S.1 a 11)]) (S' := S1) ?_ rfl rfl rfl hS1
  refine ev_icmp_eq 3142 dL_law_495 (by decide) (fun c1 => ?_) (fun c1 => ?_)
  · replace hQ := hQ.1 c1
    exact hQ
  · replace hQ := hQ.2 c1
    refine ev_iconst (0) dL_law_498 rfl ?_
    exact ev_ireturn .boolean dL_law_499 rfl rfl hQ
set_option maxHeartbeats 4000000 in
set_option maxRecDepth 100000 in
theorem sg_L_law_500 {g : ev_G} {S : ev_S} {Q : ev_O → ev_S → Prop} {B : Nat} (k0 a b o1 o2 : Nat) (u5 : Int32) (hQ : ∀ S1 : ev_S, S1 = (ev_up S b 7 0) → (
    ((S.1 ((a_X2_deskOf (a + 11) 0) + 1) 4) = (S.1 (b + 1) 0) → (
      ev_E g m_L_law 52 (B + 2) 3142 [some (ev_x 0 k0), some (ev_o 9 a), some (ev_o 10 b), some (ev_o 21 o1), some (ev_o 22 o2), some (ev_i u5), none, none, none, none] [] S1 Q)) ∧
    (¬ ((S.1 ((a_X2_deskOf (a + 11) 0) + 1) 4) = (S.1 (b + 1) 0)) → (
      Q (.inl (some (ev_i 0))) S1)))) : ev_E g m_L_law 52 (B + 2) 500 [some (ev_x 0 k0), some (ev_o 9 a), some (ev_o 10 b), some (ev_o 21 o1), some (ev_o 22 o2), some (ev_i u5), none, none, none, none] [] S Q := by
  refine ev_aload_n (ev_o 9 a) dL_law_500 rfl rfl ?_
  refine ev_fV mv_X9_boardSize 3 9 [] [] dL_law_501 kw_1091 rfl (by decide) rfl (by decide) (Nat.le_of_ble_eq_true rfl) (sp_X9_boardSize a) ?_ rfl
  refine ev_aload_n (ev_o 10 b) dL_law_504 rfl rfl ?_
  refine ev_fV mv_X10_boardSize 1 10 [] [ev_i (S.1 ((a_X2_deskOf (a + 11) 0) + 1) 4)] dL_law_505 kw_2189 rfl (by decide) rfl (by decide) (Nat.le_of_ble_eq_true rfl) (sp_X10_boardSize b) ?_ rfl
  refine ev_sub hQ (fun S1 hS1 hQ => ?_)
  refine ev_E.goal (pc' := 508) (L' := [some (ev_x 0 k0), some (ev_o 9 a), some (ev_o 10 b), some (ev_o 21 o1), some (ev_o 22 o2), some (ev_i u5), none, none, none, none]) (K' := [ev_i (S.1 (b + 1) 0), ev_i (S.1 ((a_X2_deskOf (a + 11) 0) + 1) 4)]) (S' := S1) ?_ rfl rfl rfl hS1
  refine ev_icmp_eq 3142 dL_law_508 (by decide) (fun c1 => ?_) (fun c1 => ?_)
  · replace hQ := hQ.1 c1
    exact hQ
  · replace hQ := hQ.2 c1
    refine ev_iconst (0) dL_law_511 rfl ?_
    exact ev_ireturn .boolean dL_law_512 rfl rfl hQ
set_option maxHeartbeats 4000000 in
set_option maxRecDepth 100000 in
theorem sg_L_law_513 {g : ev_G} {S : ev_S} {Q : ev_O → ev_S → Prop} {B : Nat} (k0 a b o1 o2 : Nat) (u5 : Int32) (hQ : ∀ S1 : ev_S, S1 = (ev_up S b 7 0) → (
    ((S.1 ((a_X2_deskOf (a + 11) 0) + 1) 5) = (S.1 (b + 1) 1) → (
      ev_E g m_L_law 52 (B + 2) 3142 [some (ev_x 0 k0), some (ev_o 9 a), some (ev_o 10 b), some (ev_o 21 o1), some (ev_o 22 o2), some (ev_i u5), none, none, none, none] [] S1 Q)) ∧
    (¬ ((S.1 ((a_X2_deskOf (a + 11) 0) + 1) 5) = (S.1 (b + 1) 1)) → (
      Q (.inl (some (ev_i 0))) S1)))) : ev_E g m_L_law 52 (B + 2) 513 [some (ev_x 0 k0), some (ev_o 9 a), some (ev_o 10 b), some (ev_o 21 o1), some (ev_o 22 o2), some (ev_i u5), none, none, none, none] [] S Q := by
  refine ev_aload_n (ev_o 9 a) dL_law_513 rfl rfl ?_
  refine ev_fV mv_X9_moveLimit 3 9 [] [] dL_law_514 kw_1096 rfl (by decide) rfl (by decide) (Nat.le_of_ble_eq_true rfl) (sp_X9_moveLimit a) ?_ rfl
  refine ev_aload_n (ev_o 10 b) dL_law_517 rfl rfl ?_
  refine ev_fV mv_X10_moveLimit 1 10 [] [ev_i (S.1 ((a_X2_deskOf (a + 11) 0) + 1) 5)] dL_law_518 kw_2193 rfl (by decide) rfl (by decide) (Nat.le_of_ble_eq_true rfl) (sp_X10_moveLimit b) ?_ rfl
  refine ev_sub hQ (fun S1 hS1 hQ => ?_)
  refine ev_E.goal (pc' := 521) (L' := [some (ev_x 0 k0), some (ev_o 9 a), some (ev_o 10 b), some (ev_o 21 o1), some (ev_o 22 o2), some (ev_i u5), none, none, none, none]) (K' := [ev_i (S.1 (b + 1) 1), ev_i (S.1 ((a_X2_deskOf (a + 11) 0) + 1) 5)]) (S' := S1) ?_ rfl rfl rfl hS1
  refine ev_icmp_eq 3142 dL_law_521 (by decide) (fun c1 => ?_) (fun c1 => ?_)
  · replace hQ := hQ.1 c1
    exact hQ
  · replace hQ := hQ.2 c1
    refine ev_iconst (0) dL_law_524 rfl ?_
    exact ev_ireturn .boolean dL_law_525 rfl rfl hQ
set_option maxHeartbeats 4000000 in
set_option maxRecDepth 100000 in
theorem sg_L_law_526 {g : ev_G} {S : ev_S} {Q : ev_O → ev_S → Prop} {B : Nat} (k0 a b o1 o2 : Nat) (u5 : Int32) (hQ : ∀ S1 : ev_S, S1 = (ev_up S b 7 0) → (
    ((S.1 (a + 11) 4) = (S.1 (b + 1) 2) → (
      ev_E g m_L_law 52 (B + 2) 3142 [some (ev_x 0 k0), some (ev_o 9 a), some (ev_o 10 b), some (ev_o 21 o1), some (ev_o 22 o2), some (ev_i u5), none, none, none, none] [] S1 Q)) ∧
    (¬ ((S.1 (a + 11) 4) = (S.1 (b + 1) 2)) → (
      Q (.inl (some (ev_i 0))) S1)))) : ev_E g m_L_law 52 (B + 2) 526 [some (ev_x 0 k0), some (ev_o 9 a), some (ev_o 10 b), some (ev_o 21 o1), some (ev_o 22 o2), some (ev_i u5), none, none, none, none] [] S Q := by
  refine ev_aload_n (ev_o 9 a) dL_law_526 rfl rfl ?_
  refine ev_fV mv_X9_day 2 9 [] [] dL_law_527 kw_1104 rfl (by decide) rfl (by decide) (Nat.le_of_ble_eq_true rfl) (sp_X9_day a) ?_ rfl
  refine ev_aload_n (ev_o 10 b) dL_law_530 rfl rfl ?_
  refine ev_fV mv_X10_day 1 10 [] [ev_i (S.1 (a + 11) 4)] dL_law_531 kw_2197 rfl (by decide) rfl (by decide) (Nat.le_of_ble_eq_true rfl) (sp_X10_day b) ?_ rfl
  refine ev_sub hQ (fun S1 hS1 hQ => ?_)
  refine ev_E.goal (pc' := 534) (L' := [some (ev_x 0 k0), some (ev_o 9 a), some (ev_o 10 b), some (ev_o 21 o1), some (ev_o 22 o2), some (ev_i u5), none, none, none, none]) (K' := [ev_i (S.1 (b + 1) 2), ev_i (S.1 (a + 11) 4)]) (S' := S1) ?_ rfl rfl rfl hS1
  refine ev_icmp_eq 3142 dL_law_534 (by decide) (fun c1 => ?_) (fun c1 => ?_)
  · replace hQ := hQ.1 c1
    exact hQ
  · replace hQ := hQ.2 c1
    refine ev_iconst (0) dL_law_537 rfl ?_
    exact ev_ireturn .boolean dL_law_538 rfl rfl hQ
set_option maxHeartbeats 4000000 in
set_option maxRecDepth 100000 in
theorem sg_L_law_539 {g : ev_G} {S : ev_S} {Q : ev_O → ev_S → Prop} {B : Nat} (k0 a b o1 o2 : Nat) (u5 : Int32) (hQ : ∀ S1 : ev_S, S1 = (ev_up S b 7 0) → (
    ((ev_rem ((S.1 (a + 11) 4) / 30) 12) = (ev_rem (((ev_up S b 7 0).1 (b + 1) 2) / 30) 12) → (
      ev_E g m_L_law 52 (B + 2) 3142 [some (ev_x 0 k0), some (ev_o 9 a), some (ev_o 10 b), some (ev_o 21 o1), some (ev_o 22 o2), some (ev_i u5), none, none, none, none] [] S1 Q)) ∧
    (¬ ((ev_rem ((S.1 (a + 11) 4) / 30) 12) = (ev_rem (((ev_up S b 7 0).1 (b + 1) 2) / 30) 12)) → (
      Q (.inl (some (ev_i 0))) S1)))) : ev_E g m_L_law 52 (B + 2) 539 [some (ev_x 0 k0), some (ev_o 9 a), some (ev_o 10 b), some (ev_o 21 o1), some (ev_o 22 o2), some (ev_i u5), none, none, none, none] [] S Q := by
  refine ev_aload_n (ev_o 9 a) dL_law_539 rfl rfl ?_
  refine ev_fV mv_X9_month 2 9 [] [] dL_law_540 kw_1112 rfl (by decide) rfl (by decide) (Nat.le_of_ble_eq_true rfl) (sp_X9_month a) ?_ rfl
  refine ev_aload_n (ev_o 10 b) dL_law_543 rfl rfl ?_
  refine ev_fV mv_X10_month 2 10 [] [ev_i (ev_rem ((S.1 (a + 11) 4) / 30) 12)] dL_law_544 kw_2201 rfl (by decide) rfl (by decide) (Nat.le_of_ble_eq_true rfl) (sp_X10_month b) ?_ rfl
  refine ev_sub hQ (fun S1 hS1 hQ => ?_)
  refine ev_E.goal (pc' := 547) (L' := [some (ev_x 0 k0), some (ev_o 9 a), some (ev_o 10 b), some (ev_o 21 o1), some (ev_o 22 o2), some (ev_i u5), none, none, none, none]) (K' := [ev_i (ev_rem (((ev_up S b 7 0).1 (b + 1) 2) / 30) 12), ev_i (ev_rem ((S.1 (a + 11) 4) / 30) 12)]) (S' := S1) ?_ rfl rfl rfl hS1
  refine ev_icmp_eq 3142 dL_law_547 (by decide) (fun c1 => ?_) (fun c1 => ?_)
  · replace hQ := hQ.1 c1
    exact hQ
  · replace hQ := hQ.2 c1
    refine ev_iconst (0) dL_law_550 rfl ?_
    exact ev_ireturn .boolean dL_law_551 rfl rfl hQ
set_option maxHeartbeats 4000000 in
set_option maxRecDepth 100000 in
theorem sg_L_law_552 {g : ev_G} {S : ev_S} {Q : ev_O → ev_S → Prop} {B : Nat} (k0 a b o1 o2 : Nat) (u5 : Int32) (hQ : (vp_in (u5 + 1) (ev_sl g)) ∧ (
    (vp_in (u5 + 2) (ev_sl g)) ∧ (
      ev_Cv g m_L_bishopOwner 5 1 [ev_o 9 a, ev_i (ev_sx g (u5 + 1).toNatClampNeg), ev_i (ev_sx g (u5 + 2).toNatClampNeg), ev_o 21 o1] S (fun o S1 => ∃ v1_ : Int32, o = .inl (some (ev_i v1_)) ∧ (
        ev_Cv g m_X10_bishopOwner 3 0 [ev_o 10 b, ev_i (ev_sx g (u5 + 1).toNatClampNeg), ev_i (ev_sx g (u5 + 2).toNatClampNeg)] S1 (fun o S2 => ∃ v2_ : Int32, o = .inl (some (ev_i v2_)) ∧ (
          ((S2.1 b 7) = v1_ → (
            (v1_ = 0 → (
              ((lg_cmp S2.2.1 v2_.toInt64) = 0 → (
                ev_E g m_L_law 52 (B + 1) 3142 [some (ev_x 0 k0), some (ev_o 9 a), some (ev_o 10 b), some (ev_o 21 o1), some (ev_o 22 o2), some (ev_i u5), none, none, none, none] [] S2 Q)) ∧
              (¬ ((lg_cmp S2.2.1 v2_.toInt64) = 0) → (
                Q (.inl (some (ev_i 0))) S2)))) ∧
            (¬ (v1_ = 0) → (
              ev_E g m_L_law 52 (B + 1) 3142 [some (ev_x 0 k0), some (ev_o 9 a), some (ev_o 10 b), some (ev_o 21 o1), some (ev_o 22 o2), some (ev_i u5), none, none, none, none] [] S2 Q)))) ∧
          (¬ ((S2.1 b 7) = v1_) → (
            Q (.inl (some (ev_i 0))) S2))))))))) : ev_E g m_L_law 52 (B + 2) 552 [some (ev_x 0 k0), some (ev_o 9 a), some (ev_o 10 b), some (ev_o 21 o1), some (ev_o 22 o2), some (ev_i u5), none, none, none, none] [] S Q := by
  refine ev_aload_n (ev_o 9 a) dL_law_552 rfl rfl ?_
  refine ev_aload_n (ev_x 0 k0) dL_law_553 rfl rfl ?_
  refine ev_iload (u5) dL_law_554 rfl ?_
  refine ev_iconst (1) dL_law_556 rfl ?_
  refine ev_iadd dL_law_557 ?_
  obtain ⟨h1, hQ⟩ := hQ
  refine ev_sld dL_law_558 h1 ?_
  refine ev_aload_n (ev_x 0 k0) dL_law_559 rfl rfl ?_
  refine ev_iload (u5) dL_law_560 rfl ?_
  refine ev_iconst (2) dL_law_562 rfl ?_
  refine ev_iadd dL_law_563 ?_
  obtain ⟨h2, hQ⟩ := hQ
  refine ev_sld dL_law_564 h2 ?_
  refine ev_aload_n (ev_o 21 o1) dL_law_565 rfl rfl ?_
  refine ev_cH mh_L_bishopOwner 5 1 [ev_o 9 a, ev_i (ev_sx g (u5 + 1).toNatClampNeg), ev_i (ev_sx g (u5 + 2).toNatClampNeg), ev_o 21 o1] [] dL_law_566 kw_1333 rfl (by decide) (by omega) (Nat.le_of_ble_eq_true rfl) hQ ?_ rfl
  rintro o S1 ⟨v1_, rfl, hQ⟩
  show ev_E g m_L_law 52 (B + 1) 569 [some (ev_x 0 k0), some (ev_o 9 a), some (ev_o 10 b), some (ev_o 21 o1), some (ev_o 22 o2), some (ev_i u5), none, none, none, none] [ev_i v1_] S1 Q
  refine ev_istore dL_law_569 (Nat.le_of_ble_eq_true rfl) (ev_hw rfl) ?_
  show ev_E g m_L_law 52 (B + 1) 571 [some (ev_x 0 k0), some (ev_o 9 a), some (ev_o 10 b), some (ev_o 21 o1), some (ev_o 22 o2), some (ev_i u5), some (ev_i v1_), none, none, none] [] S1 Q
  refine ev_aload_n (ev_o 10 b) dL_law_571 rfl rfl ?_
  refine ev_aload_n (ev_x 0 k0) dL_law_572 rfl rfl ?_
  refine ev_iload (u5) dL_law_573 rfl ?_
  refine ev_iconst (1) dL_law_575 rfl ?_
  refine ev_iadd dL_law_576 ?_
  refine ev_sld dL_law_577 h1 ?_
  refine ev_aload_n (ev_x 0 k0) dL_law_578 rfl rfl ?_
  refine ev_iload (u5) dL_law_579 rfl ?_
  refine ev_iconst (2) dL_law_581 rfl ?_
  refine ev_iadd dL_law_582 ?_
  refine ev_sld dL_law_583 h2 ?_
  refine ev_cV mv_X10_bishopOwner 3 0 10 [ev_i (ev_sx g (u5 + 1).toNatClampNeg), ev_i (ev_sx g (u5 + 2).toNatClampNeg)] [] dL_law_584 kw_2205 rfl (by decide) rfl (by decide) (by omega) (Nat.le_of_ble_eq_true rfl) hQ ?_ rfl
  rintro o S2 ⟨v2_, rfl, hQ⟩
  show ev_E g m_L_law 52 (B + 1) 587 [some (ev_x 0 k0), some (ev_o 9 a), some (ev_o 10 b), some (ev_o 21 o1), some (ev_o 22 o2), some (ev_i u5), some (ev_i v1_), none, none, none] [ev_i v2_] S2 Q
  refine ev_istore dL_law_587 (Nat.le_of_ble_eq_true rfl) (ev_hw rfl) ?_
  show ev_E g m_L_law 52 (B + 1) 589 [some (ev_x 0 k0), some (ev_o 9 a), some (ev_o 10 b), some (ev_o 21 o1), some (ev_o 22 o2), some (ev_i u5), some (ev_i v1_), some (ev_i v2_), none, none] [] S2 Q
  refine ev_aload_n (ev_o 10 b) dL_law_589 rfl rfl ?_
  refine ev_fV mv_X10_thrown 1 10 [] [] dL_law_590 kw_1939 rfl (by decide) rfl (by decide) (Nat.le_of_ble_eq_true rfl) (sp_X10_thrown b) ?_ rfl
  refine ev_iload (v1_) dL_law_593 rfl ?_
  refine ev_icmp_eq 600 dL_law_595 (by decide) (fun c1 => ?_) (fun c1 => ?_)
  · replace hQ := hQ.1 c1
    refine ev_iload (v1_) dL_law_600 rfl ?_
    refine ev_if_ne 617 dL_law_602 (by decide) (fun c2 => ?_) (fun c2 => ?_)
    · replace hQ := hQ.2 c2
      refine ev_goto 3142 dL_law_617 (by decide) ?_
      refine ev_fgm [true, true, true, true, true, true, false, false, false, false] ?_
      exact hQ
    · replace hQ := hQ.1 c2
      refine ev_aload_n (ev_o 21 o1) dL_law_605 rfl rfl ?_
      refine ev_iconst (0) dL_law_606 rfl ?_
      refine ev_laload dL_law_607 ?_
      refine ev_iload (v2_) dL_law_608 rfl ?_
      refine ev_i2l dL_law_610 ?_
      refine ev_lcmp dL_law_611 ?_
      refine ev_if_eq 617 dL_law_612 (by decide) (fun c3 => ?_) (fun c3 => ?_)
      · replace hQ := hQ.1 c3
        refine ev_goto 3142 dL_law_617 (by decide) ?_
        refine ev_fgm [true, true, true, true, true, true, false, false, false, false] ?_
        exact hQ
      · replace hQ := hQ.2 c3
        refine ev_iconst (0) dL_law_615 rfl ?_
        exact ev_ireturn .boolean dL_law_616 rfl rfl hQ
  · replace hQ := hQ.2 c1
    refine ev_iconst (0) dL_law_598 rfl ?_
    exact ev_ireturn .boolean dL_law_599 rfl rfl hQ
set_option maxHeartbeats 4000000 in
set_option maxRecDepth 100000 in
theorem sg_L_law_620 {g : ev_G} {S : ev_S} {Q : ev_O → ev_S → Prop} {B : Nat} (k0 a b o1 o2 : Nat) (u5 : Int32) (hQ : (vp_in (u5 + 1) (ev_sl g)) ∧ (
    (vp_in (u5 + 2) (ev_sl g)) ∧ (
      ev_Cv g m_L_bishopCount 4 1 [ev_o 9 a, ev_i (ev_sx g (u5 + 1).toNatClampNeg), ev_i (ev_sx g (u5 + 2).toNatClampNeg), ev_o 21 o1] S (fun o S1 => ∃ v1_ : Int32, o = .inl (some (ev_i v1_)) ∧ (
        ev_Cv g m_X10_bishopCount 3 0 [ev_o 10 b, ev_i (ev_sx g (u5 + 1).toNatClampNeg), ev_i (ev_sx g (u5 + 2).toNatClampNeg)] S1 (fun o S2 => ∃ v2_ : Int32, o = .inl (some (ev_i v2_)) ∧ (
          ((S2.1 b 7) = v1_ → (
            (v1_ = 0 → (
              ((lg_cmp S2.2.1 v2_.toInt64) = 0 → (
                ev_E g m_L_law 52 (B + 1) 3142 [some (ev_x 0 k0), some (ev_o 9 a), some (ev_o 10 b), some (ev_o 21 o1), some (ev_o 22 o2), some (ev_i u5), none, none, none, none] [] S2 Q)) ∧
              (¬ ((lg_cmp S2.2.1 v2_.toInt64) = 0) → (
                Q (.inl (some (ev_i 0))) S2)))) ∧
            (¬ (v1_ = 0) → (
              ev_E g m_L_law 52 (B + 1) 3142 [some (ev_x 0 k0), some (ev_o 9 a), some (ev_o 10 b), some (ev_o 21 o1), some (ev_o 22 o2), some (ev_i u5), none, none, none, none] [] S2 Q)))) ∧
          (¬ ((S2.1 b 7) = v1_) → (
            Q (.inl (some (ev_i 0))) S2))))))))) : ev_E g m_L_law 52 (B + 2) 620 [some (ev_x 0 k0), some (ev_o 9 a), some (ev_o 10 b), some (ev_o 21 o1), some (ev_o 22 o2), some (ev_i u5), none, none, none, none] [] S Q := by
  refine ev_aload_n (ev_o 9 a) dL_law_620 rfl rfl ?_
  refine ev_aload_n (ev_x 0 k0) dL_law_621 rfl rfl ?_
  refine ev_iload (u5) dL_law_622 rfl ?_
  refine ev_iconst (1) dL_law_624 rfl ?_
  refine ev_iadd dL_law_625 ?_
  obtain ⟨h1, hQ⟩ := hQ
  refine ev_sld dL_law_626 h1 ?_
  refine ev_aload_n (ev_x 0 k0) dL_law_627 rfl rfl ?_
  refine ev_iload (u5) dL_law_628 rfl ?_
  refine ev_iconst (2) dL_law_630 rfl ?_
  refine ev_iadd dL_law_631 ?_
  obtain ⟨h2, hQ⟩ := hQ
  refine ev_sld dL_law_632 h2 ?_
  refine ev_aload_n (ev_o 21 o1) dL_law_633 rfl rfl ?_
  refine ev_cH mh_L_bishopCount 4 1 [ev_o 9 a, ev_i (ev_sx g (u5 + 1).toNatClampNeg), ev_i (ev_sx g (u5 + 2).toNatClampNeg), ev_o 21 o1] [] dL_law_634 kw_1362 rfl (by decide) (by omega) (Nat.le_of_ble_eq_true rfl) hQ ?_ rfl
  rintro o S1 ⟨v1_, rfl, hQ⟩
  show ev_E g m_L_law 52 (B + 1) 637 [some (ev_x 0 k0), some (ev_o 9 a), some (ev_o 10 b), some (ev_o 21 o1), some (ev_o 22 o2), some (ev_i u5), none, none, none, none] [ev_i v1_] S1 Q
  refine ev_istore dL_law_637 (Nat.le_of_ble_eq_true rfl) (ev_hw rfl) ?_
  show ev_E g m_L_law 52 (B + 1) 639 [some (ev_x 0 k0), some (ev_o 9 a), some (ev_o 10 b), some (ev_o 21 o1), some (ev_o 22 o2), some (ev_i u5), some (ev_i v1_), none, none, none] [] S1 Q
  refine ev_aload_n (ev_o 10 b) dL_law_639 rfl rfl ?_
  refine ev_aload_n (ev_x 0 k0) dL_law_640 rfl rfl ?_
  refine ev_iload (u5) dL_law_641 rfl ?_
  refine ev_iconst (1) dL_law_643 rfl ?_
  refine ev_iadd dL_law_644 ?_
  refine ev_sld dL_law_645 h1 ?_
  refine ev_aload_n (ev_x 0 k0) dL_law_646 rfl rfl ?_
  refine ev_iload (u5) dL_law_647 rfl ?_
  refine ev_iconst (2) dL_law_649 rfl ?_
  refine ev_iadd dL_law_650 ?_
  refine ev_sld dL_law_651 h2 ?_
  refine ev_cV mv_X10_bishopCount 3 0 10 [ev_i (ev_sx g (u5 + 1).toNatClampNeg), ev_i (ev_sx g (u5 + 2).toNatClampNeg)] [] dL_law_652 kw_2209 rfl (by decide) rfl (by decide) (by omega) (Nat.le_of_ble_eq_true rfl) hQ ?_ rfl
  rintro o S2 ⟨v2_, rfl, hQ⟩
  show ev_E g m_L_law 52 (B + 1) 655 [some (ev_x 0 k0), some (ev_o 9 a), some (ev_o 10 b), some (ev_o 21 o1), some (ev_o 22 o2), some (ev_i u5), some (ev_i v1_), none, none, none] [ev_i v2_] S2 Q
  refine ev_istore dL_law_655 (Nat.le_of_ble_eq_true rfl) (ev_hw rfl) ?_
  show ev_E g m_L_law 52 (B + 1) 657 [some (ev_x 0 k0), some (ev_o 9 a), some (ev_o 10 b), some (ev_o 21 o1), some (ev_o 22 o2), some (ev_i u5), some (ev_i v1_), some (ev_i v2_), none, none] [] S2 Q
  refine ev_aload_n (ev_o 10 b) dL_law_657 rfl rfl ?_
  refine ev_fV mv_X10_thrown 1 10 [] [] dL_law_658 kw_1939 rfl (by decide) rfl (by decide) (Nat.le_of_ble_eq_true rfl) (sp_X10_thrown b) ?_ rfl
  refine ev_iload (v1_) dL_law_661 rfl ?_
  refine ev_icmp_eq 668 dL_law_663 (by decide) (fun c1 => ?_) (fun c1 => ?_)
  · replace hQ := hQ.1 c1
    refine ev_iload (v1_) dL_law_668 rfl ?_
    refine ev_if_ne 685 dL_law_670 (by decide) (fun c2 => ?_) (fun c2 => ?_)
    · replace hQ := hQ.2 c2
      refine ev_goto 3142 dL_law_685 (by decide) ?_
      refine ev_fgm [true, true, true, true, true, true, false, false, false, false] ?_
      exact hQ
    · replace hQ := hQ.1 c2
      refine ev_aload_n (ev_o 21 o1) dL_law_673 rfl rfl ?_
      refine ev_iconst (0) dL_law_674 rfl ?_
      refine ev_laload dL_law_675 ?_
      refine ev_iload (v2_) dL_law_676 rfl ?_
      refine ev_i2l dL_law_678 ?_
      refine ev_lcmp dL_law_679 ?_
      refine ev_if_eq 685 dL_law_680 (by decide) (fun c3 => ?_) (fun c3 => ?_)
      · replace hQ := hQ.1 c3
        refine ev_goto 3142 dL_law_685 (by decide) ?_
        refine ev_fgm [true, true, true, true, true, true, false, false, false, false] ?_
        exact hQ
      · replace hQ := hQ.2 c3
        refine ev_iconst (0) dL_law_683 rfl ?_
        exact ev_ireturn .boolean dL_law_684 rfl rfl hQ
  · replace hQ := hQ.2 c1
    refine ev_iconst (0) dL_law_666 rfl ?_
    exact ev_ireturn .boolean dL_law_667 rfl rfl hQ
set_option maxHeartbeats 4000000 in
set_option maxRecDepth 100000 in
theorem sg_L_law_688 {g : ev_G} {S : ev_S} {Q : ev_O → ev_S → Prop} {B : Nat} (k0 a b o1 o2 : Nat) (u5 : Int32) (hQ : (vp_in (u5 + 1) (ev_sl g)) ∧ (
    ev_Cv g m_L_moveCount 4 1 [ev_o 9 a, ev_i (ev_sx g (u5 + 1).toNatClampNeg), ev_o 21 o1] S (fun o S1 => ∃ v1_ : Int32, o = .inl (some (ev_i v1_)) ∧ (
      ev_Cv g m_X10_moveCount 3 0 [ev_o 10 b, ev_i (ev_sx g (u5 + 1).toNatClampNeg)] S1 (fun o S2 => ∃ v2_ : Int32, o = .inl (some (ev_i v2_)) ∧ (
        ((S2.1 b 7) = v1_ → (
          (v1_ = 0 → (
            ((lg_cmp S2.2.1 v2_.toInt64) = 0 → (
              ev_E g m_L_law 52 (B + 1) 3142 [some (ev_x 0 k0), some (ev_o 9 a), some (ev_o 10 b), some (ev_o 21 o1), some (ev_o 22 o2), some (ev_i u5), none, none, none, none] [] S2 Q)) ∧
            (¬ ((lg_cmp S2.2.1 v2_.toInt64) = 0) → (
              Q (.inl (some (ev_i 0))) S2)))) ∧
          (¬ (v1_ = 0) → (
            ev_E g m_L_law 52 (B + 1) 3142 [some (ev_x 0 k0), some (ev_o 9 a), some (ev_o 10 b), some (ev_o 21 o1), some (ev_o 22 o2), some (ev_i u5), none, none, none, none] [] S2 Q)))) ∧
        (¬ ((S2.1 b 7) = v1_) → (
          Q (.inl (some (ev_i 0))) S2)))))))) : ev_E g m_L_law 52 (B + 2) 688 [some (ev_x 0 k0), some (ev_o 9 a), some (ev_o 10 b), some (ev_o 21 o1), some (ev_o 22 o2), some (ev_i u5), none, none, none, none] [] S Q := by
  refine ev_aload_n (ev_o 9 a) dL_law_688 rfl rfl ?_
  refine ev_aload_n (ev_x 0 k0) dL_law_689 rfl rfl ?_
  refine ev_iload (u5) dL_law_690 rfl ?_
  refine ev_iconst (1) dL_law_692 rfl ?_
  refine ev_iadd dL_law_693 ?_
  obtain ⟨h1, hQ⟩ := hQ
  refine ev_sld dL_law_694 h1 ?_
  refine ev_aload_n (ev_o 21 o1) dL_law_695 rfl rfl ?_
  refine ev_cH mh_L_moveCount 4 1 [ev_o 9 a, ev_i (ev_sx g (u5 + 1).toNatClampNeg), ev_o 21 o1] [] dL_law_696 kw_1369 rfl (by decide) (by omega) (Nat.le_of_ble_eq_true rfl) hQ ?_ rfl
  rintro o S1 ⟨v1_, rfl, hQ⟩
  show ev_E g m_L_law 52 (B + 1) 699 [some (ev_x 0 k0), some (ev_o 9 a), some (ev_o 10 b), some (ev_o 21 o1), some (ev_o 22 o2), some (ev_i u5), none, none, none, none] [ev_i v1_] S1 Q
  refine ev_istore dL_law_699 (Nat.le_of_ble_eq_true rfl) (ev_hw rfl) ?_
  show ev_E g m_L_law 52 (B + 1) 701 [some (ev_x 0 k0), some (ev_o 9 a), some (ev_o 10 b), some (ev_o 21 o1), some (ev_o 22 o2), some (ev_i u5), some (ev_i v1_), none, none, none] [] S1 Q
  refine ev_aload_n (ev_o 10 b) dL_law_701 rfl rfl ?_
  refine ev_aload_n (ev_x 0 k0) dL_law_702 rfl rfl ?_
  refine ev_iload (u5) dL_law_703 rfl ?_
  refine ev_iconst (1) dL_law_705 rfl ?_
  refine ev_iadd dL_law_706 ?_
  refine ev_sld dL_law_707 h1 ?_
  refine ev_cV mv_X10_moveCount 3 0 10 [ev_i (ev_sx g (u5 + 1).toNatClampNeg)] [] dL_law_708 kw_2213 rfl (by decide) rfl (by decide) (by omega) (Nat.le_of_ble_eq_true rfl) hQ ?_ rfl
  rintro o S2 ⟨v2_, rfl, hQ⟩
  show ev_E g m_L_law 52 (B + 1) 711 [some (ev_x 0 k0), some (ev_o 9 a), some (ev_o 10 b), some (ev_o 21 o1), some (ev_o 22 o2), some (ev_i u5), some (ev_i v1_), none, none, none] [ev_i v2_] S2 Q
  refine ev_istore dL_law_711 (Nat.le_of_ble_eq_true rfl) (ev_hw rfl) ?_
  show ev_E g m_L_law 52 (B + 1) 713 [some (ev_x 0 k0), some (ev_o 9 a), some (ev_o 10 b), some (ev_o 21 o1), some (ev_o 22 o2), some (ev_i u5), some (ev_i v1_), some (ev_i v2_), none, none] [] S2 Q
  refine ev_aload_n (ev_o 10 b) dL_law_713 rfl rfl ?_
  refine ev_fV mv_X10_thrown 1 10 [] [] dL_law_714 kw_1939 rfl (by decide) rfl (by decide) (Nat.le_of_ble_eq_true rfl) (sp_X10_thrown b) ?_ rfl
  refine ev_iload (v1_) dL_law_717 rfl ?_
  refine ev_icmp_eq 724 dL_law_719 (by decide) (fun c1 => ?_) (fun c1 => ?_)
  · replace hQ := hQ.1 c1
    refine ev_iload (v1_) dL_law_724 rfl ?_
    refine ev_if_ne 741 dL_law_726 (by decide) (fun c2 => ?_) (fun c2 => ?_)
    · replace hQ := hQ.2 c2
      refine ev_goto 3142 dL_law_741 (by decide) ?_
      refine ev_fgm [true, true, true, true, true, true, false, false, false, false] ?_
      exact hQ
    · replace hQ := hQ.1 c2
      refine ev_aload_n (ev_o 21 o1) dL_law_729 rfl rfl ?_
      refine ev_iconst (0) dL_law_730 rfl ?_
      refine ev_laload dL_law_731 ?_
      refine ev_iload (v2_) dL_law_732 rfl ?_
      refine ev_i2l dL_law_734 ?_
      refine ev_lcmp dL_law_735 ?_
      refine ev_if_eq 741 dL_law_736 (by decide) (fun c3 => ?_) (fun c3 => ?_)
      · replace hQ := hQ.1 c3
        refine ev_goto 3142 dL_law_741 (by decide) ?_
        refine ev_fgm [true, true, true, true, true, true, false, false, false, false] ?_
        exact hQ
      · replace hQ := hQ.2 c3
        refine ev_iconst (0) dL_law_739 rfl ?_
        exact ev_ireturn .boolean dL_law_740 rfl rfl hQ
  · replace hQ := hQ.2 c1
    refine ev_iconst (0) dL_law_722 rfl ?_
    exact ev_ireturn .boolean dL_law_723 rfl rfl hQ
set_option maxHeartbeats 4000000 in
set_option maxRecDepth 100000 in
theorem sg_L_law_744 {g : ev_G} {S : ev_S} {Q : ev_O → ev_S → Prop} {B : Nat} (k0 a b o1 o2 : Nat) (u5 : Int32) (hQ : (vp_in (u5 + 1) (ev_sl g)) ∧ (
    ev_Cv g m_L_isTurn 6 1 [ev_o 9 a, ev_i (ev_sx g (u5 + 1).toNatClampNeg), ev_o 21 o1] S (fun o S1 => ∃ v1_ : Int32, o = .inl (some (ev_i v1_)) ∧ (
      ev_Cv g m_X10_isTurn 5 0 [ev_o 10 b, ev_i (ev_sx g (u5 + 1).toNatClampNeg)] S1 (fun o S2 => ∃ v2_ : Bool, o = .inl (some (ev_i (if v2_ = true then 1 else 0))) ∧ (
        (v2_ = true → (
          ((S2.1 b 7) = v1_ → (
            (v1_ = 0 → (
              ((lg_cmp S2.2.1 1) = 0 → (
                ev_E g m_L_law 52 (B + 1) 3142 [some (ev_x 0 k0), some (ev_o 9 a), some (ev_o 10 b), some (ev_o 21 o1), some (ev_o 22 o2), some (ev_i u5), none, none, none, none] [] S2 Q)) ∧
              (¬ ((lg_cmp S2.2.1 1) = 0) → (
                Q (.inl (some (ev_i 0))) S2)))) ∧
            (¬ (v1_ = 0) → (
              ev_E g m_L_law 52 (B + 1) 3142 [some (ev_x 0 k0), some (ev_o 9 a), some (ev_o 10 b), some (ev_o 21 o1), some (ev_o 22 o2), some (ev_i u5), none, none, none, none] [] S2 Q)))) ∧
          (¬ ((S2.1 b 7) = v1_) → (
            Q (.inl (some (ev_i 0))) S2)))) ∧
        (¬ (v2_ = true) → (
          ((S2.1 b 7) = v1_ → (
            (v1_ = 0 → (
              ((lg_cmp S2.2.1 0) = 0 → (
                ev_E g m_L_law 52 (B + 1) 3142 [some (ev_x 0 k0), some (ev_o 9 a), some (ev_o 10 b), some (ev_o 21 o1), some (ev_o 22 o2), some (ev_i u5), none, none, none, none] [] S2 Q)) ∧
              (¬ ((lg_cmp S2.2.1 0) = 0) → (
                Q (.inl (some (ev_i 0))) S2)))) ∧
            (¬ (v1_ = 0) → (
              ev_E g m_L_law 52 (B + 1) 3142 [some (ev_x 0 k0), some (ev_o 9 a), some (ev_o 10 b), some (ev_o 21 o1), some (ev_o 22 o2), some (ev_i u5), none, none, none, none] [] S2 Q)))) ∧
          (¬ ((S2.1 b 7) = v1_) → (
            Q (.inl (some (ev_i 0))) S2)))))))))) : ev_E g m_L_law 52 (B + 2) 744 [some (ev_x 0 k0), some (ev_o 9 a), some (ev_o 10 b), some (ev_o 21 o1), some (ev_o 22 o2), some (ev_i u5), none, none, none, none] [] S Q := by
  refine ev_aload_n (ev_o 9 a) dL_law_744 rfl rfl ?_
  refine ev_aload_n (ev_x 0 k0) dL_law_745 rfl rfl ?_
  refine ev_iload (u5) dL_law_746 rfl ?_
  refine ev_iconst (1) dL_law_748 rfl ?_
  refine ev_iadd dL_law_749 ?_
  obtain ⟨h1, hQ⟩ := hQ
  refine ev_sld dL_law_750 h1 ?_
  refine ev_aload_n (ev_o 21 o1) dL_law_751 rfl rfl ?_
  refine ev_cH mh_L_isTurn 6 1 [ev_o 9 a, ev_i (ev_sx g (u5 + 1).toNatClampNeg), ev_o 21 o1] [] dL_law_752 kw_1377 rfl (by decide) (by omega) (Nat.le_of_ble_eq_true rfl) hQ ?_ rfl
  rintro o S1 ⟨v1_, rfl, hQ⟩
  show ev_E g m_L_law 52 (B + 1) 755 [some (ev_x 0 k0), some (ev_o 9 a), some (ev_o 10 b), some (ev_o 21 o1), some (ev_o 22 o2), some (ev_i u5), none, none, none, none] [ev_i v1_] S1 Q
  refine ev_istore dL_law_755 (Nat.le_of_ble_eq_true rfl) (ev_hw rfl) ?_
  show ev_E g m_L_law 52 (B + 1) 757 [some (ev_x 0 k0), some (ev_o 9 a), some (ev_o 10 b), some (ev_o 21 o1), some (ev_o 22 o2), some (ev_i u5), some (ev_i v1_), none, none, none] [] S1 Q
  refine ev_aload_n (ev_o 10 b) dL_law_757 rfl rfl ?_
  refine ev_aload_n (ev_x 0 k0) dL_law_758 rfl rfl ?_
  refine ev_iload (u5) dL_law_759 rfl ?_
  refine ev_iconst (1) dL_law_761 rfl ?_
  refine ev_iadd dL_law_762 ?_
  refine ev_sld dL_law_763 h1 ?_
  refine ev_cV mv_X10_isTurn 5 0 10 [ev_i (ev_sx g (u5 + 1).toNatClampNeg)] [] dL_law_764 kw_2217 rfl (by decide) rfl (by decide) (by omega) (Nat.le_of_ble_eq_true rfl) hQ ?_ rfl
  rintro o S2 ⟨v2_, rfl, hQ⟩
  show ev_E g m_L_law 52 (B + 1) 767 [some (ev_x 0 k0), some (ev_o 9 a), some (ev_o 10 b), some (ev_o 21 o1), some (ev_o 22 o2), some (ev_i u5), some (ev_i v1_), none, none, none] [ev_i (if v2_ = true then 1 else 0)] S2 Q
  by_cases c1 : v2_ = true
  · rw [if_pos c1]
    replace hQ := hQ.1 c1
    refine ev_istore dL_law_767 (Nat.le_of_ble_eq_true rfl) (ev_hw rfl) ?_
    show ev_E g m_L_law 52 (B + 1) 769 [some (ev_x 0 k0), some (ev_o 9 a), some (ev_o 10 b), some (ev_o 21 o1), some (ev_o 22 o2), some (ev_i u5), some (ev_i v1_), some (ev_i 1), none, none] [] S2 Q
    refine ev_aload_n (ev_o 10 b) dL_law_769 rfl rfl ?_
    refine ev_fV mv_X10_thrown 1 10 [] [] dL_law_770 kw_1939 rfl (by decide) rfl (by decide) (Nat.le_of_ble_eq_true rfl) (sp_X10_thrown b) ?_ rfl
    refine ev_iload (v1_) dL_law_773 rfl ?_
    refine ev_icmp_eq 780 dL_law_775 (by decide) (fun c2 => ?_) (fun c2 => ?_)
    · replace hQ := hQ.1 c2
      refine ev_iload (v1_) dL_law_780 rfl ?_
      refine ev_if_ne 804 dL_law_782 (by decide) (fun c3 => ?_) (fun c3 => ?_)
      · replace hQ := hQ.2 c3
        refine ev_goto 3142 dL_law_804 (by decide) ?_
        refine ev_fgm [true, true, true, true, true, true, false, false, false, false] ?_
        exact hQ
      · replace hQ := hQ.1 c3
        refine ev_aload_n (ev_o 21 o1) dL_law_785 rfl rfl ?_
        refine ev_iconst (0) dL_law_786 rfl ?_
        refine ev_laload dL_law_787 ?_
        refine ev_iload (1) dL_law_788 rfl ?_
        refine ev_if_eq 797 dL_law_790 (by decide) (fun h9 => absurd h9 (by decide : ¬ ((1 : Int32) = 0))) (fun _ => ?_)
        refine ev_lconst (1) dL_law_793 rfl ?_
        refine ev_goto 798 dL_law_794 (by decide) ?_
        refine ev_lcmp dL_law_798 ?_
        refine ev_if_eq 804 dL_law_799 (by decide) (fun c4 => ?_) (fun c4 => ?_)
        · replace hQ := hQ.1 c4
          refine ev_goto 3142 dL_law_804 (by decide) ?_
          refine ev_fgm [true, true, true, true, true, true, false, false, false, false] ?_
          exact hQ
        · replace hQ := hQ.2 c4
          refine ev_iconst (0) dL_law_802 rfl ?_
          exact ev_ireturn .boolean dL_law_803 rfl rfl hQ
    · replace hQ := hQ.2 c2
      refine ev_iconst (0) dL_law_778 rfl ?_
      exact ev_ireturn .boolean dL_law_779 rfl rfl hQ
  · rw [if_neg c1]
    replace hQ := hQ.2 c1
    refine ev_istore dL_law_767 (Nat.le_of_ble_eq_true rfl) (ev_hw rfl) ?_
    show ev_E g m_L_law 52 (B + 1) 769 [some (ev_x 0 k0), some (ev_o 9 a), some (ev_o 10 b), some (ev_o 21 o1), some (ev_o 22 o2), some (ev_i u5), some (ev_i v1_), some (ev_i 0), none, none] [] S2 Q
    refine ev_aload_n (ev_o 10 b) dL_law_769 rfl rfl ?_
    refine ev_fV mv_X10_thrown 1 10 [] [] dL_law_770 kw_1939 rfl (by decide) rfl (by decide) (Nat.le_of_ble_eq_true rfl) (sp_X10_thrown b) ?_ rfl
    refine ev_iload (v1_) dL_law_773 rfl ?_
    refine ev_icmp_eq 780 dL_law_775 (by decide) (fun c5 => ?_) (fun c5 => ?_)
    · replace hQ := hQ.1 c5
      refine ev_iload (v1_) dL_law_780 rfl ?_
      refine ev_if_ne 804 dL_law_782 (by decide) (fun c6 => ?_) (fun c6 => ?_)
      · replace hQ := hQ.2 c6
        refine ev_goto 3142 dL_law_804 (by decide) ?_
        refine ev_fgm [true, true, true, true, true, true, false, false, false, false] ?_
        exact hQ
      · replace hQ := hQ.1 c6
        refine ev_aload_n (ev_o 21 o1) dL_law_785 rfl rfl ?_
        refine ev_iconst (0) dL_law_786 rfl ?_
        refine ev_laload dL_law_787 ?_
        refine ev_iload (0) dL_law_788 rfl ?_
        refine ev_if_eq 797 dL_law_790 (by decide) (fun _ => ?_) (fun h9 => absurd (by decide : ((0 : Int32) = 0)) h9)
        refine ev_lconst (0) dL_law_797 rfl ?_
        refine ev_lcmp dL_law_798 ?_
        refine ev_if_eq 804 dL_law_799 (by decide) (fun c7 => ?_) (fun c7 => ?_)
        · replace hQ := hQ.1 c7
          refine ev_goto 3142 dL_law_804 (by decide) ?_
          refine ev_fgm [true, true, true, true, true, true, false, false, false, false] ?_
          exact hQ
        · replace hQ := hQ.2 c7
          refine ev_iconst (0) dL_law_802 rfl ?_
          exact ev_ireturn .boolean dL_law_803 rfl rfl hQ
    · replace hQ := hQ.2 c5
      refine ev_iconst (0) dL_law_778 rfl ?_
      exact ev_ireturn .boolean dL_law_779 rfl rfl hQ
set_option maxHeartbeats 4000000 in
set_option maxRecDepth 100000 in
theorem sg_L_law_807 {g : ev_G} {S : ev_S} {Q : ev_O → ev_S → Prop} {B : Nat} (k0 a b o1 o2 : Nat) (u5 : Int32) (hQ : (vp_in (u5 + 1) (ev_sl g)) ∧ (
    ev_Cv g m_L_isOver 5 1 [ev_o 9 a, ev_i (ev_sx g (u5 + 1).toNatClampNeg), ev_o 21 o1] S (fun o S1 => ∃ v1_ : Int32, o = .inl (some (ev_i v1_)) ∧ (
      ev_Cv g m_X10_isOver 4 0 [ev_o 10 b, ev_i (ev_sx g (u5 + 1).toNatClampNeg)] S1 (fun o S2 => ∃ v2_ : Bool, o = .inl (some (ev_i (if v2_ = true then 1 else 0))) ∧ (
        (v2_ = true → (
          ((S2.1 b 7) = v1_ → (
            (v1_ = 0 → (
              ((lg_cmp S2.2.1 1) = 0 → (
                ev_E g m_L_law 52 (B + 1) 3142 [some (ev_x 0 k0), some (ev_o 9 a), some (ev_o 10 b), some (ev_o 21 o1), some (ev_o 22 o2), some (ev_i u5), none, none, none, none] [] S2 Q)) ∧
              (¬ ((lg_cmp S2.2.1 1) = 0) → (
                Q (.inl (some (ev_i 0))) S2)))) ∧
            (¬ (v1_ = 0) → (
              ev_E g m_L_law 52 (B + 1) 3142 [some (ev_x 0 k0), some (ev_o 9 a), some (ev_o 10 b), some (ev_o 21 o1), some (ev_o 22 o2), some (ev_i u5), none, none, none, none] [] S2 Q)))) ∧
          (¬ ((S2.1 b 7) = v1_) → (
            Q (.inl (some (ev_i 0))) S2)))) ∧
        (¬ (v2_ = true) → (
          ((S2.1 b 7) = v1_ → (
            (v1_ = 0 → (
              ((lg_cmp S2.2.1 0) = 0 → (
                ev_E g m_L_law 52 (B + 1) 3142 [some (ev_x 0 k0), some (ev_o 9 a), some (ev_o 10 b), some (ev_o 21 o1), some (ev_o 22 o2), some (ev_i u5), none, none, none, none] [] S2 Q)) ∧
              (¬ ((lg_cmp S2.2.1 0) = 0) → (
                Q (.inl (some (ev_i 0))) S2)))) ∧
            (¬ (v1_ = 0) → (
              ev_E g m_L_law 52 (B + 1) 3142 [some (ev_x 0 k0), some (ev_o 9 a), some (ev_o 10 b), some (ev_o 21 o1), some (ev_o 22 o2), some (ev_i u5), none, none, none, none] [] S2 Q)))) ∧
          (¬ ((S2.1 b 7) = v1_) → (
            Q (.inl (some (ev_i 0))) S2)))))))))) : ev_E g m_L_law 52 (B + 2) 807 [some (ev_x 0 k0), some (ev_o 9 a), some (ev_o 10 b), some (ev_o 21 o1), some (ev_o 22 o2), some (ev_i u5), none, none, none, none] [] S Q := by
  refine ev_aload_n (ev_o 9 a) dL_law_807 rfl rfl ?_
  refine ev_aload_n (ev_x 0 k0) dL_law_808 rfl rfl ?_
  refine ev_iload (u5) dL_law_809 rfl ?_
  refine ev_iconst (1) dL_law_811 rfl ?_
  refine ev_iadd dL_law_812 ?_
  obtain ⟨h1, hQ⟩ := hQ
  refine ev_sld dL_law_813 h1 ?_
  refine ev_aload_n (ev_o 21 o1) dL_law_814 rfl rfl ?_
  refine ev_cH mh_L_isOver 5 1 [ev_o 9 a, ev_i (ev_sx g (u5 + 1).toNatClampNeg), ev_o 21 o1] [] dL_law_815 kw_1386 rfl (by decide) (by omega) (Nat.le_of_ble_eq_true rfl) hQ ?_ rfl
  rintro o S1 ⟨v1_, rfl, hQ⟩
  show ev_E g m_L_law 52 (B + 1) 818 [some (ev_x 0 k0), some (ev_o 9 a), some (ev_o 10 b), some (ev_o 21 o1), some (ev_o 22 o2), some (ev_i u5), none, none, none, none] [ev_i v1_] S1 Q
  refine ev_istore dL_law_818 (Nat.le_of_ble_eq_true rfl) (ev_hw rfl) ?_
  show ev_E g m_L_law 52 (B + 1) 820 [some (ev_x 0 k0), some (ev_o 9 a), some (ev_o 10 b), some (ev_o 21 o1), some (ev_o 22 o2), some (ev_i u5), some (ev_i v1_), none, none, none] [] S1 Q
  refine ev_aload_n (ev_o 10 b) dL_law_820 rfl rfl ?_
  refine ev_aload_n (ev_x 0 k0) dL_law_821 rfl rfl ?_
  refine ev_iload (u5) dL_law_822 rfl ?_
  refine ev_iconst (1) dL_law_824 rfl ?_
  refine ev_iadd dL_law_825 ?_
  refine ev_sld dL_law_826 h1 ?_
  refine ev_cV mv_X10_isOver 4 0 10 [ev_i (ev_sx g (u5 + 1).toNatClampNeg)] [] dL_law_827 kw_2221 rfl (by decide) rfl (by decide) (by omega) (Nat.le_of_ble_eq_true rfl) hQ ?_ rfl
  rintro o S2 ⟨v2_, rfl, hQ⟩
  show ev_E g m_L_law 52 (B + 1) 830 [some (ev_x 0 k0), some (ev_o 9 a), some (ev_o 10 b), some (ev_o 21 o1), some (ev_o 22 o2), some (ev_i u5), some (ev_i v1_), none, none, none] [ev_i (if v2_ = true then 1 else 0)] S2 Q
  by_cases c1 : v2_ = true
  · rw [if_pos c1]
    replace hQ := hQ.1 c1
    refine ev_istore dL_law_830 (Nat.le_of_ble_eq_true rfl) (ev_hw rfl) ?_
    show ev_E g m_L_law 52 (B + 1) 832 [some (ev_x 0 k0), some (ev_o 9 a), some (ev_o 10 b), some (ev_o 21 o1), some (ev_o 22 o2), some (ev_i u5), some (ev_i v1_), some (ev_i 1), none, none] [] S2 Q
    refine ev_aload_n (ev_o 10 b) dL_law_832 rfl rfl ?_
    refine ev_fV mv_X10_thrown 1 10 [] [] dL_law_833 kw_1939 rfl (by decide) rfl (by decide) (Nat.le_of_ble_eq_true rfl) (sp_X10_thrown b) ?_ rfl
    refine ev_iload (v1_) dL_law_836 rfl ?_
    refine ev_icmp_eq 843 dL_law_838 (by decide) (fun c2 => ?_) (fun c2 => ?_)
    · replace hQ := hQ.1 c2
      refine ev_iload (v1_) dL_law_843 rfl ?_
      refine ev_if_ne 867 dL_law_845 (by decide) (fun c3 => ?_) (fun c3 => ?_)
      · replace hQ := hQ.2 c3
        refine ev_goto 3142 dL_law_867 (by decide) ?_
        refine ev_fgm [true, true, true, true, true, true, false, false, false, false] ?_
        exact hQ
      · replace hQ := hQ.1 c3
        refine ev_aload_n (ev_o 21 o1) dL_law_848 rfl rfl ?_
        refine ev_iconst (0) dL_law_849 rfl ?_
        refine ev_laload dL_law_850 ?_
        refine ev_iload (1) dL_law_851 rfl ?_
        refine ev_if_eq 860 dL_law_853 (by decide) (fun h9 => absurd h9 (by decide : ¬ ((1 : Int32) = 0))) (fun _ => ?_)
        refine ev_lconst (1) dL_law_856 rfl ?_
        refine ev_goto 861 dL_law_857 (by decide) ?_
        refine ev_lcmp dL_law_861 ?_
        refine ev_if_eq 867 dL_law_862 (by decide) (fun c4 => ?_) (fun c4 => ?_)
        · replace hQ := hQ.1 c4
          refine ev_goto 3142 dL_law_867 (by decide) ?_
          refine ev_fgm [true, true, true, true, true, true, false, false, false, false] ?_
          exact hQ
        · replace hQ := hQ.2 c4
          refine ev_iconst (0) dL_law_865 rfl ?_
          exact ev_ireturn .boolean dL_law_866 rfl rfl hQ
    · replace hQ := hQ.2 c2
      refine ev_iconst (0) dL_law_841 rfl ?_
      exact ev_ireturn .boolean dL_law_842 rfl rfl hQ
  · rw [if_neg c1]
    replace hQ := hQ.2 c1
    refine ev_istore dL_law_830 (Nat.le_of_ble_eq_true rfl) (ev_hw rfl) ?_
    show ev_E g m_L_law 52 (B + 1) 832 [some (ev_x 0 k0), some (ev_o 9 a), some (ev_o 10 b), some (ev_o 21 o1), some (ev_o 22 o2), some (ev_i u5), some (ev_i v1_), some (ev_i 0), none, none] [] S2 Q
    refine ev_aload_n (ev_o 10 b) dL_law_832 rfl rfl ?_
    refine ev_fV mv_X10_thrown 1 10 [] [] dL_law_833 kw_1939 rfl (by decide) rfl (by decide) (Nat.le_of_ble_eq_true rfl) (sp_X10_thrown b) ?_ rfl
    refine ev_iload (v1_) dL_law_836 rfl ?_
    refine ev_icmp_eq 843 dL_law_838 (by decide) (fun c5 => ?_) (fun c5 => ?_)
    · replace hQ := hQ.1 c5
      refine ev_iload (v1_) dL_law_843 rfl ?_
      refine ev_if_ne 867 dL_law_845 (by decide) (fun c6 => ?_) (fun c6 => ?_)
      · replace hQ := hQ.2 c6
        refine ev_goto 3142 dL_law_867 (by decide) ?_
        refine ev_fgm [true, true, true, true, true, true, false, false, false, false] ?_
        exact hQ
      · replace hQ := hQ.1 c6
        refine ev_aload_n (ev_o 21 o1) dL_law_848 rfl rfl ?_
        refine ev_iconst (0) dL_law_849 rfl ?_
        refine ev_laload dL_law_850 ?_
        refine ev_iload (0) dL_law_851 rfl ?_
        refine ev_if_eq 860 dL_law_853 (by decide) (fun _ => ?_) (fun h9 => absurd (by decide : ((0 : Int32) = 0)) h9)
        refine ev_lconst (0) dL_law_860 rfl ?_
        refine ev_lcmp dL_law_861 ?_
        refine ev_if_eq 867 dL_law_862 (by decide) (fun c7 => ?_) (fun c7 => ?_)
        · replace hQ := hQ.1 c7
          refine ev_goto 3142 dL_law_867 (by decide) ?_
          refine ev_fgm [true, true, true, true, true, true, false, false, false, false] ?_
          exact hQ
        · replace hQ := hQ.2 c7
          refine ev_iconst (0) dL_law_865 rfl ?_
          exact ev_ireturn .boolean dL_law_866 rfl rfl hQ
    · replace hQ := hQ.2 c5
      refine ev_iconst (0) dL_law_841 rfl ?_
      exact ev_ireturn .boolean dL_law_842 rfl rfl hQ
