/-! ===== the law reads a text that was made (printed by gen_y26.py) ===== -/
set_option maxHeartbeats 4000000 in
set_option maxRecDepth 100000 in
theorem s_coder {g : ev_G} {S : ev_S} {b : Nat} (hc : S.1 b 1 = 0) : ev_Fn g m_J0_coder_7d493 1 [ev_o 13 b] S (some (ev_i 0)) S := by
  intro Q hQ
  refine ev_enter (by decide) rfl rfl (Nat.le_of_ble_eq_true rfl) ?_
  show ev_E g m_J0_coder_7d493 (1) (0) 0 [some (ev_o 13 b)] [] (S) Q
  refine ev_compact dJ0_coder_7d493_0 kw_344 ?_
  refine ev_if_eq 13 dJ0_coder_7d493_3 (by decide) (fun h9 => absurd h9 (by decide)) (fun _ => ?_)
  refine ev_aload_n (ev_o 13 b) dJ0_coder_7d493_6 rfl rfl ?_
  refine gf_13_1 dJ0_coder_7d493_7 kw_1881 ?_
  refine ev_ke (v' := 0) (hc) ?_
  refine ev_goto 14 dJ0_coder_7d493_10 (by decide) ?_
  exact ev_ireturn .byte dJ0_coder_7d493_14 rfl rfl hQ
set_option maxHeartbeats 4000000 in
set_option maxRecDepth 100000 in
theorem s_lat {g : ev_G} {S : ev_S} {b : Nat} (hc : S.1 b 1 = 0) : ev_Fn g m_J0_isLatin1_aae02 1 [ev_o 13 b] S (some (ev_i 1)) S := by
  intro Q hQ
  refine ev_enter (by decide) rfl rfl (Nat.le_of_ble_eq_true rfl) ?_
  show ev_E g m_J0_isLatin1_aae02 (1) (0) 0 [some (ev_o 13 b)] [] (S) Q
  refine ev_compact dJ0_isLatin1_aae02_0 kw_344 ?_
  refine ev_if_eq 17 dJ0_isLatin1_aae02_3 (by decide) (fun h9 => absurd h9 (by decide)) (fun _ => ?_)
  refine ev_aload_n (ev_o 13 b) dJ0_isLatin1_aae02_6 rfl rfl ?_
  refine gf_13_1 dJ0_isLatin1_aae02_7 kw_1881 ?_
  refine ev_ke (v' := 0) (hc) ?_
  refine ev_if_ne 17 dJ0_isLatin1_aae02_10 (by decide) (fun h9 => absurd (rfl) h9) (fun _ => ?_)
  refine ev_iconst (1) dJ0_isLatin1_aae02_13 rfl ?_
  refine ev_goto 18 dJ0_isLatin1_aae02_14 (by decide) ?_
  exact ev_ireturn .boolean dJ0_isLatin1_aae02_18 rfl rfl hQ
set_option maxHeartbeats 4000000 in
set_option maxRecDepth 100000 in
theorem s_len {g : ev_G} {S : ev_S} {b v n : Nat} (hv : S.2.2 b 0 = some v) (hb : (10 + n, v) ∈ S.2.1) (hc : S.1 b 1 = 0) : ev_Fn g m_J0_length_8abf5 2 [ev_o 13 b] S (some (ev_i (Int32.ofNat n))) S := by
  intro Q hQ
  refine ev_enter (by decide) rfl rfl (Nat.le_of_ble_eq_true rfl) ?_
  show ev_E g m_J0_length_8abf5 (2) (0) 0 [some (ev_o 13 b)] [] (S) Q
  refine ev_aload_n (ev_o 13 b) dJ0_length_8abf5_0 rfl rfl ?_
  refine gf_13_0 dJ0_length_8abf5_1 kw_1880 hv hb ?_
  refine ev_alenB dJ0_length_8abf5_4 ?_
  refine ev_aload_n (ev_o 13 b) dJ0_length_8abf5_5 rfl rfl ?_
  refine ev_fV mv_J0_coder_7d493 1 13 [] [ev_i (Int32.ofNat n)] dJ0_length_8abf5_6 kw_340 rfl (by decide) rfl (by decide) (Nat.le_of_ble_eq_true rfl) (s_coder hc) ?_ rfl
  refine ev_ishr dJ0_length_8abf5_9 ?_
  refine ev_ke (v' := Int32.ofNat n) (sb_shr0 _) ?_
  exact ev_ireturn .int dJ0_length_8abf5_10 rfl rfl hQ
theorem jb_chr : ∀ c, c < 128 → j_i2c (Int32.ofNat c &&& 255) = Int32.ofNat c ∧ narrow .char (.int (Int32.ofNat c)) = .int (Int32.ofNat c) := by decide +kernel
set_option maxHeartbeats 4000000 in
set_option maxRecDepth 100000 in
theorem s_chr1 {g : ev_G} {S : ev_S} {v n j c : Nat} (hj : j < n) (hn : n ≤ 700) (hc : c < 128) (hcv : S.1 v j = Int32.ofNat c) : ev_Fn g m_J1_charAt_3b067 3 [ev_o (1000 + n) v, ev_i (Int32.ofNat j)] S (some (ev_i (Int32.ofNat c))) S := by
  intro Q hQ
  refine ev_enter (by decide) rfl rfl (Nat.le_of_ble_eq_true rfl) ?_
  show ev_E g m_J1_charAt_3b067 (3) (0) 0 [some (ev_o (1000 + n) v), some (ev_i (Int32.ofNat j))] [] (S) Q
  refine ev_iload_n ((Int32.ofNat j)) dJ1_charAt_3b067_0 rfl ?_
  refine ev_aload_n (ev_o (1000 + n) v) dJ1_charAt_3b067_1 rfl rfl ?_
  refine ev_alenB dJ1_charAt_3b067_2 ?_
  refine ev_fSn ms_J0_checkIndex_df160 2 [ev_i (Int32.ofNat j), ev_i (Int32.ofNat n)] [] dJ1_charAt_3b067_3 kw_357 rfl (by decide) (Nat.le_of_ble_eq_true rfl) (sp_J0_checkIndex_df160 _ _ (fun h9 => absurd h9 (show ¬ nI j < 0 from nI_pos (by omega))) (fun _ h9 => absurd (show nI j < nI n from nI_lt hj (by omega)) h9)) ?_ rfl
  refine ev_aload_n (ev_o (1000 + n) v) dJ1_charAt_3b067_6 rfl rfl ?_
  refine ev_iload_n ((Int32.ofNat j)) dJ1_charAt_3b067_7 rfl ?_
  refine ev_balB dJ1_charAt_3b067_8 (show vp_in (nI j) n from vp_in_nI hj (by omega)) ?_
  refine ev_ke (v' := Int32.ofNat c) (by rw [show (Int32.ofNat j).toNatClampNeg = j from nI_clamp (by omega)]; exact hcv) ?_
  refine ev_sipush (255) dJ1_charAt_3b067_9 (by decide) ?_
  refine ev_iand dJ1_charAt_3b067_12 ?_
  refine ev_i2c dJ1_charAt_3b067_13 ?_
  refine ev_ke (v' := Int32.ofNat c) ((jb_chr c hc).1) ?_
  exact ev_ireturn .char dJ1_charAt_3b067_14 rfl (jb_chr c hc).2 hQ
set_option maxHeartbeats 4000000 in
set_option maxRecDepth 100000 in
theorem s_chr {g : ev_G} {S : ev_S} {b v n j c : Nat} (hv : S.2.2 b 0 = some v) (hb : (10 + n, v) ∈ S.2.1) (hc0 : S.1 b 1 = 0) (hj : j < n) (hn : n ≤ 700) (hc : c < 128) (hcv : S.1 v j = Int32.ofNat c) : ev_Fn g m_J0_charAt_5068e 4 [ev_o 13 b, ev_i (Int32.ofNat j)] S (some (ev_i (Int32.ofNat c))) S := by
  intro Q hQ
  refine ev_enter (by decide) rfl rfl (Nat.le_of_ble_eq_true rfl) ?_
  show ev_E g m_J0_charAt_5068e (4) (0) 0 [some (ev_o 13 b), some (ev_i (Int32.ofNat j))] [] (S) Q
  refine ev_aload_n (ev_o 13 b) dJ0_charAt_5068e_0 rfl rfl ?_
  refine ev_fV mv_J0_isLatin1_aae02 1 13 [] [] dJ0_charAt_5068e_1 kw_350 rfl (by decide) rfl (by decide) (Nat.le_of_ble_eq_true rfl) (s_lat hc0) ?_ rfl
  refine ev_if_eq 16 dJ0_charAt_5068e_4 (by decide) (fun h9 => absurd h9 (by decide)) (fun _ => ?_)
  refine ev_aload_n (ev_o 13 b) dJ0_charAt_5068e_7 rfl rfl ?_
  refine gf_13_0 dJ0_charAt_5068e_8 kw_1880 hv hb ?_
  refine ev_iload_n ((Int32.ofNat j)) dJ0_charAt_5068e_11 rfl ?_
  refine ev_fS ms_J1_charAt_3b067 3 [ev_o (1000 + n) v, ev_i (Int32.ofNat j)] [] dJ0_charAt_5068e_12 kw_354 rfl (by decide) (Nat.le_of_ble_eq_true rfl) (s_chr1 hj hn hc hcv) ?_ rfl
  exact ev_ireturn .char dJ0_charAt_5068e_15 rfl (jb_chr c hc).2 hQ
/-- the byte at a place of a text; none behind its end -/
def jb_by (t : List Nat) (j : Nat) : Nat := if j < t.length then t.getD j 0 else 0
theorem jb_or {X c : Nat} (hX : X < 2 ^ 23) (hc : c < 256) : (Int32.ofNat X <<< ((8 : Int32) &&& 31)) ||| Int32.ofNat c = Int32.ofNat (X * 256 + c) := by
  apply Int32.toBitVec_inj.mp
  show (BitVec.ofNat 32 X <<< 8) ||| BitVec.ofNat 32 c = BitVec.ofNat 32 (X * 256 + c)
  apply BitVec.eq_of_toNat_eq
  rw [BitVec.toNat_or, BitVec.toNat_shiftLeft, BitVec.toNat_ofNat, BitVec.toNat_ofNat, BitVec.toNat_ofNat, Nat.mod_eq_of_lt (show X < 2 ^ 32 by omega), Nat.mod_eq_of_lt (show c < 2 ^ 32 by omega), Nat.mod_eq_of_lt (show X * 256 + c < 2 ^ 32 by omega)]
  rw [Nat.shiftLeft_eq, Nat.mod_eq_of_lt (show X * 2 ^ 8 < 2 ^ 32 by omega), ← Nat.shiftLeft_eq, ← Nat.shiftLeft_add_eq_or_of_lt (show c < 2 ^ 8 by omega), Nat.shiftLeft_eq]
set_option maxHeartbeats 4000000 in
set_option maxRecDepth 100000 in
theorem w_four1 {g : ev_G} {S : ev_S} {Q : ev_O → ev_S → Prop} {b k i x : Nat} {t : List Nat} (hs : st_is S b t) (hl : t.length ≤ 700) (ha : ∀ j, j < t.length → t.getD j 0 < 128) (hx : x < 2 ^ 23) (hk : k ≤ 1000) (hi : i < 4) (kk : ev_E g m_L_four 5 0 4 [some (ev_o 13 b), some (ev_i (Int32.ofNat k)), some (ev_i (Int32.ofNat (x * 256 + jb_by t (k + i)))), some (ev_i (Int32.ofNat (k + i + 1)))] [] S Q) : ev_E g m_L_four 5 0 4 [some (ev_o 13 b), some (ev_i (Int32.ofNat k)), some (ev_i (Int32.ofNat x)), some (ev_i (Int32.ofNat (k + i)))] [] S Q := by
  obtain ⟨h5, v, hv, hb, hc, ht⟩ := hs
  have hby : jb_by t (k + i) < 128 := by
    unfold jb_by
    split
    · exact ha _ (by assumption)
    · omega
  refine ev_iload_n ((Int32.ofNat (k + i))) dL_four_4 rfl ?_
  refine ev_iload_n ((Int32.ofNat k)) dL_four_5 rfl ?_
  refine ev_iconst (4) dL_four_6 rfl ?_
  refine ev_iadd dL_four_7 ?_
  refine ev_ke (v' := Int32.ofNat (k + 4)) ((nI_add k 4 : nI k + nI 4 = nI (k + 4))) ?_
  refine ev_icmp_ge 40 dL_four_8 (by decide) (fun h9 => absurd h9 (show ¬ nI (k + 4) ≤ nI (k + i) from nI_ge (by omega) (by omega))) (fun _ => ?_)
  refine ev_iload_n ((Int32.ofNat x)) dL_four_11 rfl ?_
  refine ev_bipush (8) dL_four_12 (by decide) ?_
  refine ev_ishl dL_four_14 ?_
  refine ev_iload_n ((Int32.ofNat (k + i))) dL_four_15 rfl ?_
  refine ev_aload_n (ev_o 13 b) dL_four_16 rfl rfl ?_
  refine ev_fV mv_J0_length_8abf5 2 13 [] [ev_i (Int32.ofNat (k + i)), ev_i ((Int32.ofNat x) <<< ((8) &&& 31))] dL_four_17 kw_1894 rfl (by decide) rfl (by decide) (Nat.le_of_ble_eq_true rfl) (s_len hv hb hc) ?_ rfl
  have hk2 : ev_E g m_L_four (5) (0) 32 [some (ev_o 13 b), some (ev_i (Int32.ofNat k)), some (ev_i (Int32.ofNat x)), some (ev_i (Int32.ofNat (k + i)))] [ev_i (Int32.ofNat (jb_by t (k + i))), ev_i (Int32.ofNat x <<< (8 &&& 31))] (S) Q := by
    refine ev_ior dL_four_32 ?_
    refine ev_ke (v' := Int32.ofNat (x * 256 + jb_by t (k + i))) (jb_or hx (by omega)) ?_
    refine ev_istore_n dL_four_33 (Nat.le_of_ble_eq_true rfl) (ev_hw rfl) ?_
    show ev_E g m_L_four (5) (0) 34 [some (ev_o 13 b), some (ev_i (Int32.ofNat k)), some (ev_i (Int32.ofNat (x * 256 + jb_by t (k + i)))), some (ev_i (Int32.ofNat (k + i)))] [] (S) Q
    refine ev_iinc ((Int32.ofNat (k + i))) (1) dL_four_34 rfl (by decide) (ev_hw rfl) ?_
    show ev_E g m_L_four (5) (0) 37 [some (ev_o 13 b), some (ev_i (Int32.ofNat k)), some (ev_i (Int32.ofNat (x * 256 + jb_by t (k + i)))), some (ev_i ((Int32.ofNat (k + i)) + 1))] [] (S) Q
    rw [show Int32.ofNat (k + i) + 1 = Int32.ofNat (k + i + 1) from nI_1 (k + i)]
    refine ev_goto 4 dL_four_37 (by decide) kk
  by_cases hkt : k + i < t.length
  · rw [jb_by, if_pos hkt] at hk2
    refine ev_icmp_ge 31 dL_four_20 (by decide) (fun h9 => absurd h9 (show ¬ nI t.length ≤ nI (k + i) from nI_ge hkt (by omega))) (fun _ => ?_)
    refine ev_aload_n (ev_o 13 b) dL_four_23 rfl rfl ?_
    refine ev_iload_n ((Int32.ofNat (k + i))) dL_four_24 rfl ?_
    refine ev_fV mv_J0_charAt_5068e 4 13 [ev_i (Int32.ofNat (k + i))] [ev_i ((Int32.ofNat x) <<< ((8) &&& 31))] dL_four_25 kw_1898 rfl (by decide) rfl (by decide) (Nat.le_of_ble_eq_true rfl) (s_chr hv hb hc hkt hl (ha _ hkt) (ht _ hkt)) ?_ rfl
    exact ev_goto 32 dL_four_28 (by decide) hk2
  · rw [jb_by, if_neg hkt] at hk2
    refine ev_icmp_ge 31 dL_four_20 (by decide) (fun _ => ?_) (fun h9 => absurd (show nI t.length ≤ nI (k + i) from nI_le (by omega) (by omega)) h9)
    refine ev_iconst (0) dL_four_31 rfl ?_
    exact hk2
def jb_4 (t : List Nat) (k : Nat) : Nat := (((0 * 256 + jb_by t (k + 0)) * 256 + jb_by t (k + 1)) * 256 + jb_by t (k + 2)) * 256 + jb_by t (k + 3)
theorem jb_byl {t : List Nat} (ha : ∀ j, j < t.length → t.getD j 0 < 128) (j : Nat) : jb_by t j < 128 := by
  unfold jb_by
  split
  · exact ha _ (by assumption)
  · omega
set_option maxHeartbeats 4000000 in
set_option maxRecDepth 100000 in
theorem w_four {g : ev_G} {S : ev_S} {b k : Nat} {t : List Nat} (hs : st_is S b t) (hl : t.length ≤ 700) (ha : ∀ j, j < t.length → t.getD j 0 < 128) (hk : k ≤ 1000) : ev_Fn g m_L_four 5 [ev_o 13 b, ev_i (Int32.ofNat k)] S (some (ev_i (Int32.ofNat (jb_4 t k)))) S := by
  intro Q hQ
  refine ev_enter (by decide) rfl rfl (Nat.le_of_ble_eq_true rfl) ?_
  show ev_E g m_L_four (5) (0) 0 [some (ev_o 13 b), some (ev_i (Int32.ofNat k)), none, none] [] (S) Q
  refine ev_iconst (0) dL_four_0 rfl ?_
  refine ev_istore_n dL_four_1 (Nat.le_of_ble_eq_true rfl) (ev_hw rfl) ?_
  show ev_E g m_L_four (5) (0) 2 [some (ev_o 13 b), some (ev_i (Int32.ofNat k)), some (ev_i (0)), none] [] (S) Q
  refine ev_iload_n ((Int32.ofNat k)) dL_four_2 rfl ?_
  refine ev_istore_n dL_four_3 (Nat.le_of_ble_eq_true rfl) (ev_hw rfl) ?_
  show ev_E g m_L_four (5) (0) 4 [some (ev_o 13 b), some (ev_i (Int32.ofNat k)), some (ev_i (0)), some (ev_i (Int32.ofNat k))] [] (S) Q
  have b0 := jb_byl ha (k + 0)
  have b1 := jb_byl ha (k + 1)
  have b2 := jb_byl ha (k + 2)
  have b3 := jb_byl ha (k + 3)
  refine w_four1 (x := 0) (i := 0) hs hl ha (by omega) hk (by decide) ?_
  refine w_four1 (x := 0 * 256 + jb_by t (k + 0)) (i := 1) hs hl ha (by omega) hk (by decide) ?_
  refine w_four1 (x := (0 * 256 + jb_by t (k + 0)) * 256 + jb_by t (k + 1)) (i := 2) hs hl ha (by omega) hk (by decide) ?_
  refine w_four1 (x := ((0 * 256 + jb_by t (k + 0)) * 256 + jb_by t (k + 1)) * 256 + jb_by t (k + 2)) (i := 3) hs hl ha (by omega) hk (by decide) ?_
  show ev_E g m_L_four (5) (0) 4 [some (ev_o 13 b), some (ev_i (Int32.ofNat k)), some (ev_i (Int32.ofNat (jb_4 t k))), some (ev_i (Int32.ofNat (k + 3 + 1)))] [] (S) Q
  refine ev_iload_n ((Int32.ofNat (k + 3 + 1))) dL_four_4 rfl ?_
  refine ev_iload_n ((Int32.ofNat k)) dL_four_5 rfl ?_
  refine ev_iconst (4) dL_four_6 rfl ?_
  refine ev_iadd dL_four_7 ?_
  refine ev_ke (v' := Int32.ofNat (k + 4)) ((nI_add k 4 : nI k + nI 4 = nI (k + 4))) ?_
  refine ev_icmp_ge 40 dL_four_8 (by decide) (fun _ => ?_) (fun h9 => absurd (show nI (k + 4) ≤ nI (k + 3 + 1) from nI_le (by omega) (by omega)) h9)
  refine ev_iload_n ((Int32.ofNat (jb_4 t k))) dL_four_40 rfl ?_
  exact ev_ireturn .int dL_four_41 rfl rfl hQ
