set_option maxHeartbeats 4000000 in
set_option maxRecDepth 100000 in
theorem sg_X11_copy_128 {g : ev_G} {S : ev_S} {Q : ev_O → ev_S → Prop} {B : Nat} (a : Nat) (w1 : Nat) (u2 : Int32) (hQ : (4 ≤ u2 → (
    ev_E g m_X11_copy 2 B 153 [some (ev_o 11 a), some (ev_o 11 w1), some (ev_i 0)] [] S Q)) ∧
  (¬ (4 ≤ u2) → (
    (vp_in u2 4) ∧ (
      ∀ S1 : ev_S, S1 = (ev_up S (w1 + 16) u2.toNatClampNeg (S.1 (a + 16) u2.toNatClampNeg)) → (
        ev_E g m_X11_copy 2 B 128 [some (ev_o 11 a), some (ev_o 11 w1), some (ev_i (u2 + 1))] [] S1 Q))))) : ev_E g m_X11_copy 2 B 128 [some (ev_o 11 a), some (ev_o 11 w1), some (ev_i u2)] [] S Q := by
  refine ev_iload_n (u2) dX11_copy_128 rfl ?_
  refine ev_iconst (4) dX11_copy_129 rfl ?_
  refine ev_icmp_ge 151 dX11_copy_130 (by decide) (fun c1 => ?_) (fun c1 => ?_)
  · replace hQ := hQ.1 c1
    refine ev_iconst (0) dX11_copy_151 rfl ?_
    refine ev_istore_n dX11_copy_152 (Nat.le_of_ble_eq_true rfl) (ev_hw rfl) ?_
    show ev_E g m_X11_copy 2 B 153 [some (ev_o 11 a), some (ev_o 11 w1), some (ev_i 0)] [] S Q
    exact hQ
  · replace hQ := hQ.2 c1
    refine ev_aload_n (ev_o 11 w1) dX11_copy_133 rfl rfl ?_
    refine gf_11_12 dX11_copy_134 kw_820 ?_
    refine ev_iload_n (u2) dX11_copy_137 rfl ?_
    refine ev_aload_n (ev_o 11 a) dX11_copy_138 rfl rfl ?_
    refine gf_11_12 dX11_copy_139 kw_820 ?_
    refine ev_iload_n (u2) dX11_copy_142 rfl ?_
    obtain ⟨h1, hQ⟩ := hQ
    refine ev_iaload dX11_copy_143 h1 ?_
    refine ev_iastore dX11_copy_144 h1 ?_
    refine ev_sub hQ (fun S1 hS1 hQ => ?_)
    refine ev_E.goal (pc' := 145) (L' := [some (ev_o 11 a), some (ev_o 11 w1), some (ev_i u2)]) (K' := []) (S' := S1) ?_ rfl rfl rfl hS1
    refine ev_iinc u2 (1) dX11_copy_145 rfl (by decide) (ev_hw rfl) ?_
    show ev_E g m_X11_copy 2 B 148 [some (ev_o 11 a), some (ev_o 11 w1), some (ev_i (u2 + 1))] [] S1 Q
    refine ev_goto 128 dX11_copy_148 (by decide) ?_
    exact hQ
set_option maxHeartbeats 4000000 in
set_option maxRecDepth 100000 in
theorem sg_X11_copy_153 {g : ev_G} {S : ev_S} {Q : ev_O → ev_S → Prop} {B : Nat} (a : Nat) (w1 : Nat) (u2 : Int32) (hQ : (8 ≤ u2 → (
    ev_E g m_X11_copy 2 B 179 [some (ev_o 11 a), some (ev_o 11 w1), some (ev_i 0)] [] S Q)) ∧
  (¬ (8 ≤ u2) → (
    (vp_in u2 8) ∧ (
      ∀ S1 : ev_S, S1 = (ev_up S (w1 + 17) u2.toNatClampNeg (S.1 (a + 17) u2.toNatClampNeg)) → (
        ev_E g m_X11_copy 2 B 153 [some (ev_o 11 a), some (ev_o 11 w1), some (ev_i (u2 + 1))] [] S1 Q))))) : ev_E g m_X11_copy 2 B 153 [some (ev_o 11 a), some (ev_o 11 w1), some (ev_i u2)] [] S Q := by
  refine ev_iload_n (u2) dX11_copy_153 rfl ?_
  refine ev_bipush (8) dX11_copy_154 (by decide) ?_
  refine ev_icmp_ge 177 dX11_copy_156 (by decide) (fun c1 => ?_) (fun c1 => ?_)
  · replace hQ := hQ.1 c1
    refine ev_iconst (0) dX11_copy_177 rfl ?_
    refine ev_istore_n dX11_copy_178 (Nat.le_of_ble_eq_true rfl) (ev_hw rfl) ?_
    show ev_E g m_X11_copy 2 B 179 [some (ev_o 11 a), some (ev_o 11 w1), some (ev_i 0)] [] S Q
    exact hQ
  · replace hQ := hQ.2 c1
    refine ev_aload_n (ev_o 11 w1) dX11_copy_159 rfl rfl ?_
    refine gf_11_13 dX11_copy_160 kw_822 ?_
    refine ev_iload_n (u2) dX11_copy_163 rfl ?_
    refine ev_aload_n (ev_o 11 a) dX11_copy_164 rfl rfl ?_
    refine gf_11_13 dX11_copy_165 kw_822 ?_
    refine ev_iload_n (u2) dX11_copy_168 rfl ?_
    obtain ⟨h1, hQ⟩ := hQ
    refine ev_iaload dX11_copy_169 h1 ?_
    refine ev_iastore dX11_copy_170 h1 ?_
    refine ev_sub hQ (fun S1 hS1 hQ => ?_)
    refine ev_E.goal (pc' := 171) (L' := [some (ev_o 11 a), some (ev_o 11 w1), some (ev_i u2)]) (K' := []) (S' := S1) ?_ rfl rfl rfl hS1
    refine ev_iinc u2 (1) dX11_copy_171 rfl (by decide) (ev_hw rfl) ?_
    show ev_E g m_X11_copy 2 B 174 [some (ev_o 11 a), some (ev_o 11 w1), some (ev_i (u2 + 1))] [] S1 Q
    refine ev_goto 153 dX11_copy_174 (by decide) ?_
    exact hQ
set_option maxHeartbeats 4000000 in
set_option maxRecDepth 100000 in
theorem sg_X11_copy_179 {g : ev_G} {S : ev_S} {Q : ev_O → ev_S → Prop} {B : Nat} (a : Nat) (w1 : Nat) (u2 : Int32) (hQ : (48 ≤ u2 → (
    ev_E g m_X11_copy 2 B 205 [some (ev_o 11 a), some (ev_o 11 w1), some (ev_i 0)] [] S Q)) ∧
  (¬ (48 ≤ u2) → (
    (vp_in u2 48) ∧ (
      ∀ S1 : ev_S, S1 = (ev_up S (w1 + 18) u2.toNatClampNeg (S.1 (a + 18) u2.toNatClampNeg)) → (
        ev_E g m_X11_copy 2 B 179 [some (ev_o 11 a), some (ev_o 11 w1), some (ev_i (u2 + 1))] [] S1 Q))))) : ev_E g m_X11_copy 2 B 179 [some (ev_o 11 a), some (ev_o 11 w1), some (ev_i u2)] [] S Q := by
  refine ev_iload_n (u2) dX11_copy_179 rfl ?_
  refine ev_bipush (48) dX11_copy_180 (by decide) ?_
  refine ev_icmp_ge 203 dX11_copy_182 (by decide) (fun c1 => ?_) (fun c1 => ?_)
  · replace hQ := hQ.1 c1
    refine ev_iconst (0) dX11_copy_203 rfl ?_
    refine ev_istore_n dX11_copy_204 (Nat.le_of_ble_eq_true rfl) (ev_hw rfl) ?_
    show ev_E g m_X11_copy 2 B 205 [some (ev_o 11 a), some (ev_o 11 w1), some (ev_i 0)] [] S Q
    exact hQ
  · replace hQ := hQ.2 c1
    refine ev_aload_n (ev_o 11 w1) dX11_copy_185 rfl rfl ?_
    refine gf_11_14 dX11_copy_186 kw_824 ?_
    refine ev_iload_n (u2) dX11_copy_189 rfl ?_
    refine ev_aload_n (ev_o 11 a) dX11_copy_190 rfl rfl ?_
    refine gf_11_14 dX11_copy_191 kw_824 ?_
    refine ev_iload_n (u2) dX11_copy_194 rfl ?_
    obtain ⟨h1, hQ⟩ := hQ
    refine ev_iaload dX11_copy_195 h1 ?_
    refine ev_iastore dX11_copy_196 h1 ?_
    refine ev_sub hQ (fun S1 hS1 hQ => ?_)
    refine ev_E.goal (pc' := 197) (L' := [some (ev_o 11 a), some (ev_o 11 w1), some (ev_i u2)]) (K' := []) (S' := S1) ?_ rfl rfl rfl hS1
    refine ev_iinc u2 (1) dX11_copy_197 rfl (by decide) (ev_hw rfl) ?_
    show ev_E g m_X11_copy 2 B 200 [some (ev_o 11 a), some (ev_o 11 w1), some (ev_i (u2 + 1))] [] S1 Q
    refine ev_goto 179 dX11_copy_200 (by decide) ?_
    exact hQ
set_option maxHeartbeats 4000000 in
set_option maxRecDepth 100000 in
theorem sg_X11_copy_205 {g : ev_G} {S : ev_S} {Q : ev_O → ev_S → Prop} {B : Nat} (a : Nat) (w1 : Nat) (u2 : Int32) (hQ : ((S.1 a 4) ≤ u2 → (
    ev_E g m_X11_copy 2 B 353 [some (ev_o 11 a), some (ev_o 11 w1), some (ev_i 0)] [] S Q)) ∧
  (¬ ((S.1 a 4) ≤ u2) → (
    (vp_in u2 81) ∧ (
      ∀ S1 : ev_S, S1 = (ev_up S (w1 + 19) u2.toNatClampNeg (S.1 (a + 19) u2.toNatClampNeg)) → (
        ∀ S2 : ev_S, S2 = (ev_up S1 (w1 + 20) u2.toNatClampNeg (S1.1 (a + 20) u2.toNatClampNeg)) → (
          ∀ S3 : ev_S, S3 = (ev_up S2 (w1 + 21) u2.toNatClampNeg (S2.1 (a + 21) u2.toNatClampNeg)) → (
            ∀ S4 : ev_S, S4 = (ev_up S3 (w1 + 22) u2.toNatClampNeg (S3.1 (a + 22) u2.toNatClampNeg)) → (
              ∀ S5 : ev_S, S5 = (ev_up S4 (w1 + 23) u2.toNatClampNeg (S4.1 (a + 23) u2.toNatClampNeg)) → (
                ∀ S6 : ev_S, S6 = (ev_up S5 (w1 + 24) u2.toNatClampNeg (S5.1 (a + 24) u2.toNatClampNeg)) → (
                  ∀ S7 : ev_S, S7 = (ev_up S6 (w1 + 25) u2.toNatClampNeg (S6.1 (a + 25) u2.toNatClampNeg)) → (
                    ∀ S8 : ev_S, S8 = (ev_up S7 (w1 + 26) u2.toNatClampNeg (S7.1 (a + 26) u2.toNatClampNeg)) → (
                      ∀ S9 : ev_S, S9 = (ev_up S8 (w1 + 27) u2.toNatClampNeg (S8.1 (a + 27) u2.toNatClampNeg)) → (
                        ∀ S10 : ev_S, S10 = (ev_up S9 (w1 + 28) u2.toNatClampNeg (S9.1 (a + 28) u2.toNatClampNeg)) → (
                          (vp_nar .boolean (S10.1 (a + 29) u2.toNatClampNeg) = (S10.1 (a + 29) u2.toNatClampNeg)) ∧ (
                            ∀ S11 : ev_S, S11 = (ev_up S10 (w1 + 29) u2.toNatClampNeg (S10.1 (a + 29) u2.toNatClampNeg)) → (
                              ev_E g m_X11_copy 2 B 205 [some (ev_o 11 a), some (ev_o 11 w1), some (ev_i (u2 + 1))] [] S11 Q)))))))))))))))) : ev_E g m_X11_copy 2 B 205 [some (ev_o 11 a), some (ev_o 11 w1), some (ev_i u2)] [] S Q := by
  refine ev_iload_n (u2) dX11_copy_205 rfl ?_
  refine ev_aload_n (ev_o 11 a) dX11_copy_206 rfl rfl ?_
  refine gf_11_4 dX11_copy_207 kw_805 ?_
  refine ev_icmp_ge 351 dX11_copy_210 (by decide) (fun c1 => ?_) (fun c1 => ?_)
  · replace hQ := hQ.1 c1
    refine ev_iconst (0) dX11_copy_351 rfl ?_
    refine ev_istore_n dX11_copy_352 (Nat.le_of_ble_eq_true rfl) (ev_hw rfl) ?_
    show ev_E g m_X11_copy 2 B 353 [some (ev_o 11 a), some (ev_o 11 w1), some (ev_i 0)] [] S Q
    exact hQ
  · replace hQ := hQ.2 c1
    refine ev_aload_n (ev_o 11 w1) dX11_copy_213 rfl rfl ?_
    refine gf_11_15 dX11_copy_214 kw_826 ?_
    refine ev_iload_n (u2) dX11_copy_217 rfl ?_
    refine ev_aload_n (ev_o 11 a) dX11_copy_218 rfl rfl ?_
    refine gf_11_15 dX11_copy_219 kw_826 ?_
    refine ev_iload_n (u2) dX11_copy_222 rfl ?_
    obtain ⟨h1, hQ⟩ := hQ
    refine ev_iaload dX11_copy_223 h1 ?_
    refine ev_iastore dX11_copy_224 h1 ?_
    refine ev_sub hQ (fun S1 hS1 hQ => ?_)
    refine ev_E.goal (pc' := 225) (L' := [some (ev_o 11 a), some (ev_o 11 w1), some (ev_i u2)]) (K' := []) (S' := S1) ?_ rfl rfl rfl hS1
    refine ev_aload_n (ev_o 11 w1) dX11_copy_225 rfl rfl ?_
    refine gf_11_16 dX11_copy_226 kw_828 ?_
    refine ev_iload_n (u2) dX11_copy_229 rfl ?_
    refine ev_aload_n (ev_o 11 a) dX11_copy_230 rfl rfl ?_
    refine gf_11_16 dX11_copy_231 kw_828 ?_
    refine ev_iload_n (u2) dX11_copy_234 rfl ?_
    refine ev_iaload dX11_copy_235 h1 ?_
    refine ev_iastore dX11_copy_236 h1 ?_
    refine ev_sub hQ (fun S2 hS2 hQ => ?_)
    refine ev_E.goal (pc' := 237) (L' := [some (ev_o 11 a), some (ev_o 11 w1), some (ev_i u2)]) (K' := []) (S' := S2) ?_ rfl rfl rfl hS2
    refine ev_aload_n (ev_o 11 w1) dX11_copy_237 rfl rfl ?_
    refine gf_11_17 dX11_copy_238 kw_829 ?_
    refine ev_iload_n (u2) dX11_copy_241 rfl ?_
    refine ev_aload_n (ev_o 11 a) dX11_copy_242 rfl rfl ?_
    refine gf_11_17 dX11_copy_243 kw_829 ?_
    refine ev_iload_n (u2) dX11_copy_246 rfl ?_
    refine ev_iaload dX11_copy_247 h1 ?_
    refine ev_iastore dX11_copy_248 h1 ?_
    refine ev_sub hQ (fun S3 hS3 hQ => ?_)
    refine ev_E.goal (pc' := 249) (L' := [some (ev_o 11 a), some (ev_o 11 w1), some (ev_i u2)]) (K' := []) (S' := S3) ?_ rfl rfl rfl hS3
    refine ev_aload_n (ev_o 11 w1) dX11_copy_249 rfl rfl ?_
    refine gf_11_18 dX11_copy_250 kw_831 ?_
    refine ev_iload_n (u2) dX11_copy_253 rfl ?_
    refine ev_aload_n (ev_o 11 a) dX11_copy_254 rfl rfl ?_
    refine gf_11_18 dX11_copy_255 kw_831 ?_
    refine ev_iload_n (u2) dX11_copy_258 rfl ?_
    refine ev_iaload dX11_copy_259 h1 ?_
    refine ev_iastore dX11_copy_260 h1 ?_
    refine ev_sub hQ (fun S4 hS4 hQ => ?_)
    refine ev_E.goal (pc' := 261) (L' := [some (ev_o 11 a), some (ev_o 11 w1), some (ev_i u2)]) (K' := []) (S' := S4) ?_ rfl rfl rfl hS4
    refine ev_aload_n (ev_o 11 w1) dX11_copy_261 rfl rfl ?_
    refine gf_11_19 dX11_copy_262 kw_833 ?_
    refine ev_iload_n (u2) dX11_copy_265 rfl ?_
    refine ev_aload_n (ev_o 11 a) dX11_copy_266 rfl rfl ?_
    refine gf_11_19 dX11_copy_267 kw_833 ?_
    refine ev_iload_n (u2) dX11_copy_270 rfl ?_
    refine ev_iaload dX11_copy_271 h1 ?_
    refine ev_iastore dX11_copy_272 h1 ?_
    refine ev_sub hQ (fun S5 hS5 hQ => ?_)
    refine ev_E.goal (pc' := 273) (L' := [some (ev_o 11 a), some (ev_o 11 w1), some (ev_i u2)]) (K' := []) (S' := S5) ?_ rfl rfl rfl hS5
    refine ev_aload_n (ev_o 11 w1) dX11_copy_273 rfl rfl ?_
    refine gf_11_20 dX11_copy_274 kw_835 ?_
    refine ev_iload_n (u2) dX11_copy_277 rfl ?_
    refine ev_aload_n (ev_o 11 a) dX11_copy_278 rfl rfl ?_
    refine gf_11_20 dX11_copy_279 kw_835 ?_
    refine ev_iload_n (u2) dX11_copy_282 rfl ?_
    refine ev_iaload dX11_copy_283 h1 ?_
    refine ev_iastore dX11_copy_284 h1 ?_
    refine ev_sub hQ (fun S6 hS6 hQ => ?_)
    refine ev_E.goal (pc' := 285) (L' := [some (ev_o 11 a), some (ev_o 11 w1), some (ev_i u2)]) (K' := []) (S' := S6) ?_ rfl rfl rfl hS6
    refine ev_aload_n (ev_o 11 w1) dX11_copy_285 rfl rfl ?_
    refine gf_11_21 dX11_copy_286 kw_837 ?_
    refine ev_iload_n (u2) dX11_copy_289 rfl ?_
    refine ev_aload_n (ev_o 11 a) dX11_copy_290 rfl rfl ?_
    refine gf_11_21 dX11_copy_291 kw_837 ?_
    refine ev_iload_n (u2) dX11_copy_294 rfl ?_
    refine ev_iaload dX11_copy_295 h1 ?_
    refine ev_iastore dX11_copy_296 h1 ?_
    refine ev_sub hQ (fun S7 hS7 hQ => ?_)
    refine ev_E.goal (pc' := 297) (L' := [some (ev_o 11 a), some (ev_o 11 w1), some (ev_i u2)]) (K' := []) (S' := S7) ?_ rfl rfl rfl hS7
    refine ev_aload_n (ev_o 11 w1) dX11_copy_297 rfl rfl ?_
    refine gf_11_22 dX11_copy_298 kw_838 ?_
    refine ev_iload_n (u2) dX11_copy_301 rfl ?_
    refine ev_aload_n (ev_o 11 a) dX11_copy_302 rfl rfl ?_
    refine gf_11_22 dX11_copy_303 kw_838 ?_
    refine ev_iload_n (u2) dX11_copy_306 rfl ?_
    refine ev_iaload dX11_copy_307 h1 ?_
    refine ev_iastore dX11_copy_308 h1 ?_
    refine ev_sub hQ (fun S8 hS8 hQ => ?_)
    refine ev_E.goal (pc' := 309) (L' := [some (ev_o 11 a), some (ev_o 11 w1), some (ev_i u2)]) (K' := []) (S' := S8) ?_ rfl rfl rfl hS8
    refine ev_aload_n (ev_o 11 w1) dX11_copy_309 rfl rfl ?_
    refine gf_11_23 dX11_copy_310 kw_839 ?_
    refine ev_iload_n (u2) dX11_copy_313 rfl ?_
    refine ev_aload_n (ev_o 11 a) dX11_copy_314 rfl rfl ?_
    refine gf_11_23 dX11_copy_315 kw_839 ?_
    refine ev_iload_n (u2) dX11_copy_318 rfl ?_
    refine ev_iaload dX11_copy_319 h1 ?_
    refine ev_iastore dX11_copy_320 h1 ?_
    refine ev_sub hQ (fun S9 hS9 hQ => ?_)
    refine ev_E.goal (pc' := 321) (L' := [some (ev_o 11 a), some (ev_o 11 w1), some (ev_i u2)]) (K' := []) (S' := S9) ?_ rfl rfl rfl hS9
    refine ev_aload_n (ev_o 11 w1) dX11_copy_321 rfl rfl ?_
    refine gf_11_24 dX11_copy_322 kw_840 ?_
    refine ev_iload_n (u2) dX11_copy_325 rfl ?_
    refine ev_aload_n (ev_o 11 a) dX11_copy_326 rfl rfl ?_
    refine gf_11_24 dX11_copy_327 kw_840 ?_
    refine ev_iload_n (u2) dX11_copy_330 rfl ?_
    refine ev_iaload dX11_copy_331 h1 ?_
    refine ev_iastore dX11_copy_332 h1 ?_
    refine ev_sub hQ (fun S10 hS10 hQ => ?_)
    refine ev_E.goal (pc' := 333) (L' := [some (ev_o 11 a), some (ev_o 11 w1), some (ev_i u2)]) (K' := []) (S' := S10) ?_ rfl rfl rfl hS10
    refine ev_aload_n (ev_o 11 w1) dX11_copy_333 rfl rfl ?_
    refine gf_11_25 dX11_copy_334 kw_841 ?_
    refine ev_iload_n (u2) dX11_copy_337 rfl ?_
    refine ev_aload_n (ev_o 11 a) dX11_copy_338 rfl rfl ?_
    refine gf_11_25 dX11_copy_339 kw_841 ?_
    refine ev_iload_n (u2) dX11_copy_342 rfl ?_
    refine ev_baload (n := 81) (by decide) dX11_copy_343 h1 ?_
    obtain ⟨h2, hQ⟩ := hQ
    refine ev_bastore (n := 81) (by decide) dX11_copy_344 h1 h2 ?_
    refine ev_sub hQ (fun S11 hS11 hQ => ?_)
    refine ev_E.goal (pc' := 345) (L' := [some (ev_o 11 a), some (ev_o 11 w1), some (ev_i u2)]) (K' := []) (S' := S11) ?_ rfl rfl rfl hS11
    refine ev_iinc u2 (1) dX11_copy_345 rfl (by decide) (ev_hw rfl) ?_
    show ev_E g m_X11_copy 2 B 348 [some (ev_o 11 a), some (ev_o 11 w1), some (ev_i (u2 + 1))] [] S11 Q
    refine ev_goto 205 dX11_copy_348 (by decide) ?_
    exact hQ
