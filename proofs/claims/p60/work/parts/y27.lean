/-! ===== the law feeds a text to the class (printed by gen_y27.py) ===== -/
theorem jb_by_get {t : List Nat} {j : Nat} : jb_by t j = t.getD j 0 := by
  unfold jb_by
  split
  · rfl
  · rw [List.getD_eq_getElem?_getD, List.getElem?_eq_none (by omega)]
    rfl
theorem jb_by_drop {t : List Nat} {k i : Nat} : jb_by t (k + i) = (t.drop k).getD i 0 := by
  rw [jb_by_get, List.getD_eq_getElem?_getD, List.getD_eq_getElem?_getD, List.getElem?_drop]
theorem jb_byo1 {N s : Nat} (hN : N < 2 ^ 31) (hs : s = 24 ∨ s = 16 ∨ s = 8 ∨ s = 0) : byo (Int32.ofNat N) (Int32.ofNat s) = Int32.ofNat (N / 2 ^ s % 256) := by
  have key : ∀ s, s = 24 ∨ s = 16 ∨ s = 8 ∨ s = 0 → (BitVec.ofNat 32 N >>> s) &&& 255#32 = BitVec.ofNat 32 (N / 2 ^ s % 256) := by
    intro s _
    apply BitVec.eq_of_toNat_eq
    rw [BitVec.toNat_and, BitVec.toNat_ushiftRight, BitVec.toNat_ofNat, BitVec.toNat_ofNat, Nat.mod_eq_of_lt (show N < 2 ^ 32 by omega), Nat.shiftRight_eq_div_pow, BitVec.toNat_ofNat, Nat.mod_eq_of_lt (show N / 2 ^ s % 256 < 2 ^ 32 by omega)]
    exact Nat.and_two_pow_sub_one_eq_mod _ 8
  have := key s hs
  rcases hs with rfl | rfl | rfl | rfl
  · exact Int32.toBitVec_inj.mp this
  · exact Int32.toBitVec_inj.mp this
  · exact Int32.toBitVec_inj.mp this
  · exact Int32.toBitVec_inj.mp this
theorem jb_n0 {c : Nat} (hc : c < 128) : (Int32.ofNat c = 0) ↔ c = 0 := by
  constructor
  · intro h
    exact (nI_eq (a := c) (b := 0) (by omega) (by omega)).mp h
  · rintro rfl
    rfl
theorem jb_b4 {t : List Nat} (ha : ∀ c ∈ t, 0 < c ∧ c < 128) (k : Nat) : b4 (Int32.ofNat (jb_4 t k)) = ((t.drop k).take 4).map Int32.ofNat := by
  have hl : ∀ c ∈ t.drop k, 0 < c ∧ c < 128 := fun c hc => ha c (List.mem_of_mem_drop hc)
  unfold jb_4
  rw [jb_by_drop, jb_by_drop, jb_by_drop, jb_by_drop]
  generalize t.drop k = l at hl
  have key : ∀ a b c d : Nat, a < 128 → b < 128 → c < 128 → d < 128 → byo (Int32.ofNat ((((0 * 256 + a) * 256 + b) * 256 + c) * 256 + d)) 24 = Int32.ofNat a ∧ byo (Int32.ofNat ((((0 * 256 + a) * 256 + b) * 256 + c) * 256 + d)) 16 = Int32.ofNat b ∧ byo (Int32.ofNat ((((0 * 256 + a) * 256 + b) * 256 + c) * 256 + d)) 8 = Int32.ofNat c ∧ byo (Int32.ofNat ((((0 * 256 + a) * 256 + b) * 256 + c) * 256 + d)) 0 = Int32.ofNat d := by
    intro a b c d ha hb hc hd
    refine ⟨(jb_byo1 (s := 24) (by omega) (by omega)).trans (congrArg Int32.ofNat (by omega)), (jb_byo1 (s := 16) (by omega) (by omega)).trans (congrArg Int32.ofNat (by omega)), (jb_byo1 (s := 8) (by omega) (by omega)).trans (congrArg Int32.ofNat (by omega)), (jb_byo1 (s := 0) (by omega) (by omega)).trans (congrArg Int32.ofNat (by omega))⟩
  rcases l with _ | ⟨a, _ | ⟨b, _ | ⟨c, _ | ⟨d, r⟩⟩⟩⟩
  · decide
  · have h1 := hl a (by simp)
    obtain ⟨e1, e2, e3, e4⟩ := key a 0 0 0 (by omega) (by omega) (by omega) (by omega)
    show bl _ [24, 16, 8, 0] = [Int32.ofNat a]
    simp only [List.getD_cons_zero, List.getD_cons_succ, List.getD_nil]
    rw [bl, bl, bl, bl, bl, e1, e2, e3, e4, if_neg (fun h9 => by have := (jb_n0 (by omega)).mp h9; omega), if_pos (show Int32.ofNat 0 = 0 from rfl), if_pos (show Int32.ofNat 0 = 0 from rfl), if_pos (show Int32.ofNat 0 = 0 from rfl)]
  · have h1 := hl a (by simp)
    have h2 := hl b (by simp)
    obtain ⟨e1, e2, e3, e4⟩ := key a b 0 0 (by omega) (by omega) (by omega) (by omega)
    show bl _ [24, 16, 8, 0] = [Int32.ofNat a, Int32.ofNat b]
    simp only [List.getD_cons_zero, List.getD_cons_succ, List.getD_nil]
    rw [bl, bl, bl, bl, bl, e1, e2, e3, e4, if_neg (fun h9 => by have := (jb_n0 (by omega)).mp h9; omega), if_neg (fun h9 => by have := (jb_n0 (by omega)).mp h9; omega), if_pos (show Int32.ofNat 0 = 0 from rfl), if_pos (show Int32.ofNat 0 = 0 from rfl)]
  · have h1 := hl a (by simp)
    have h2 := hl b (by simp)
    have h3 := hl c (by simp)
    obtain ⟨e1, e2, e3, e4⟩ := key a b c 0 (by omega) (by omega) (by omega) (by omega)
    show bl _ [24, 16, 8, 0] = [Int32.ofNat a, Int32.ofNat b, Int32.ofNat c]
    simp only [List.getD_cons_zero, List.getD_cons_succ, List.getD_nil]
    rw [bl, bl, bl, bl, bl, e1, e2, e3, e4, if_neg (fun h9 => by have := (jb_n0 (by omega)).mp h9; omega), if_neg (fun h9 => by have := (jb_n0 (by omega)).mp h9; omega), if_neg (fun h9 => by have := (jb_n0 (by omega)).mp h9; omega), if_pos (show Int32.ofNat 0 = 0 from rfl)]
  · have h1 := hl a (by simp)
    have h2 := hl b (by simp)
    have h3 := hl c (by simp)
    have h4 := hl d (by simp)
    obtain ⟨e1, e2, e3, e4⟩ := key a b c d (by omega) (by omega) (by omega) (by omega)
    show bl _ [24, 16, 8, 0] = [Int32.ofNat a, Int32.ofNat b, Int32.ofNat c, Int32.ofNat d]
    simp only [List.getD_cons_zero, List.getD_cons_succ, List.getD_nil]
    rw [bl, bl, bl, bl, bl, e1, e2, e3, e4, if_neg (fun h9 => by have := (jb_n0 (by omega)).mp h9; omega), if_neg (fun h9 => by have := (jb_n0 (by omega)).mp h9; omega), if_neg (fun h9 => by have := (jb_n0 (by omega)).mp h9; omega), if_neg (fun h9 => by have := (jb_n0 (by omega)).mp h9; omega)]
/-- twenty letters in five numbers -/
theorem jb_b20 {t : List Nat} (ha : ∀ c ∈ t, 0 < c ∧ c < 128) (k : Nat) : (((b4 (Int32.ofNat (jb_4 t k)) ++ b4 (Int32.ofNat (jb_4 t (k + 4)))) ++ b4 (Int32.ofNat (jb_4 t (k + 8)))) ++ b4 (Int32.ofNat (jb_4 t (k + 12)))) ++ b4 (Int32.ofNat (jb_4 t (k + 16))) = ((t.drop k).take 20).map Int32.ofNat := by
  rw [jb_b4 ha, jb_b4 ha, jb_b4 ha, jb_b4 ha, jb_b4 ha, ← List.drop_drop, ← List.drop_drop, ← List.drop_drop, ← List.drop_drop]
  generalize t.drop k = l
  rw [← List.map_append, ← List.map_append, ← List.map_append, ← List.map_append]
  exact congrArg (List.map Int32.ofNat) (by rw [show (20 : Nat) = 4 + (4 + (4 + (4 + 4))) from rfl, List.take_add, List.take_add, List.take_add, List.take_add, List.drop_drop, List.drop_drop, List.drop_drop, List.append_assoc, List.append_assoc, List.append_assoc])
/-- the class's append, where there is room -/
theorem w_append {g : ev_G} {a n' : Nat} {x1 x2 x3 x4 x5 : Int32} {S : ev_S} {Q : ev_O → ev_S → Prop} {W : List Int32} (hW0 : ((((b4 x1 ++ b4 x2) ++ b4 x3) ++ b4 x4) ++ b4 x5) = W) (t1 : S.1 (a + 1) 1 = Int32.ofNat n') (h : n' + W.length ≤ 800) (hQ : ∀ z, txa S z a n' W → Q (.inl (some (ev_i (Int32.ofNat (n' + W.length))))) z) : ev_Cv g m_X9_append 4 1 [ev_o 9 a, ev_i x1, ev_i x2, ev_i x3, ev_i x4, ev_i x5] S Q := by
  have e800 : (800 : Int32) = Int32.ofNat 800 := rfl
  subst hW0
  have hW : ((((b4 x1 ++ b4 x2) ++ b4 x3) ++ b4 x4) ++ b4 x5).length = (b4 x1).length + (b4 x2).length + (b4 x3).length + (b4 x4).length + (b4 x5).length := by simp only [List.length_append]
  have l1 : (b4 x1).length ≤ 4 := bl_le x1 _
  have l2 : (b4 x2).length ≤ 4 := bl_le x2 _
  have l3 : (b4 x3).length ≤ 4 := bl_le x3 _
  have l4 : (b4 x4).length ≤ 4 := bl_le x4 _
  have l5 : (b4 x5).length ≤ 4 := bl_le x5 _
  refine sg_X9_append_0 a _ _ _ _ _ (t_bytesIn x1 _ ⟨_, rfl, t_bytesIn x2 _ ⟨_, rfl, t_bytesIn x3 _ ⟨_, rfl, t_bytesIn x4 _ ⟨_, rfl, t_bytesIn x5 _ ⟨_, rfl, ?_⟩⟩⟩⟩⟩)
  rw [t1, n_add, n_add, n_add, n_add, n_add, ← hW, e800, n_le (by omega) (by omega)]
  refine ⟨fun h => ?_, fun h9 => absurd h h9⟩
  refine sg_X9_addBytes_0 a _ (t_addBytes (u := x1) [24, 16, 8, 0] 24 n' S _ chn4 t1 (show n' + (b4 x1).length ≤ 800 by omega) (fun z1 h1 => ⟨rfl, ?_⟩))
  refine sg_X9_addBytes_0 a _ (t_addBytes (u := x2) [24, 16, 8, 0] 24 (n' + (b4 x1).length) z1 _ chn4 h1.2.2.1 (show n' + (b4 x1).length + (b4 x2).length ≤ 800 by (try simp only [List.length_append]); omega) (fun z2 h2 => ⟨rfl, ?_⟩))
  have A2 := txa_tr h1 h2
  refine sg_X9_addBytes_0 a _ (t_addBytes (u := x3) [24, 16, 8, 0] 24 (n' + (b4 x1 ++ b4 x2).length) z2 _ chn4 A2.2.2.1 (show n' + (b4 x1 ++ b4 x2).length + (b4 x3).length ≤ 800 by (try simp only [List.length_append]); omega) (fun z3 h3 => ⟨rfl, ?_⟩))
  have A3 := txa_tr A2 h3
  refine sg_X9_addBytes_0 a _ (t_addBytes (u := x4) [24, 16, 8, 0] 24 (n' + ((b4 x1 ++ b4 x2) ++ b4 x3).length) z3 _ chn4 A3.2.2.1 (show n' + ((b4 x1 ++ b4 x2) ++ b4 x3).length + (b4 x4).length ≤ 800 by (try simp only [List.length_append]); omega) (fun z4 h4 => ⟨rfl, ?_⟩))
  have A4 := txa_tr A3 h4
  refine sg_X9_addBytes_0 a _ (t_addBytes (u := x5) [24, 16, 8, 0] 24 (n' + (((b4 x1 ++ b4 x2) ++ b4 x3) ++ b4 x4).length) z4 _ chn4 A4.2.2.1 (show n' + (((b4 x1 ++ b4 x2) ++ b4 x3) ++ b4 x4).length + (b4 x5).length ≤ 800 by (try simp only [List.length_append]); omega) (fun z5 h5 => ⟨rfl, ?_⟩))
  have A5 := txa_tr A4 h5
  have := hQ z5 A5
  rw [← A5.2.2.1] at this
  exact this
theorem st_kept {g : ev_G} {S z : ev_S} {b : Nat} {t : List Nat} (hw : ev_lw g S.2.1) (h : st_is S b t) (h1 : z.2 = S.2) (h2 : ∀ q, q ≠ ev_b g + 1 → q ≠ ev_b g + 2 → z.1 q = S.1 q) : st_is z b t := by
  obtain ⟨h5, v, hv, hb, hc, ht⟩ := h
  have hA : ev_b g + 505 ≤ b := hw.1 _ h5
  have hV : ev_b g + 505 ≤ v := hw.1 _ hb
  exact ⟨by rw [h1]; exact h5, v, by rw [h1]; exact hv, by rw [h1]; exact hb, by rw [h2 b (by omega) (by omega)]; exact hc, fun j hj => by rw [h2 v (by omega) (by omega)]; exact ht j hj⟩
set_option maxHeartbeats 4000000 in
set_option maxRecDepth 100000 in
theorem w_feeds {g : ev_G} {S : ev_S} {b : Nat} {t : List Nat} (hw : ev_lw g S.2.1) (hs : st_is S b t) (hl : t.length ≤ 300) (ha : ∀ c ∈ t, 0 < c ∧ c < 128) (hc0 : S.1 (ev_b g + 1) 1 = 0) : ev_Cv g m_L_feeds 6 16 [ev_o 9 (ev_b g), ev_o 13 b] S (fun o z => o = .inl (some (ev_i 1)) ∧ txa S z (ev_b g) 0 (t.map Int32.ofNat)) := by
  have ha1 : ∀ j, j < t.length → t.getD j 0 < 128 := fun j hj => by
    rw [List.getD_eq_getElem?_getD, List.getElem?_eq_getElem hj]
    exact (ha _ (List.getElem_mem hj)).2
  have key : ∀ (r k : Nat) (z : ev_S) (Q : ev_O → ev_S → Prop), t.length ≤ k + 20 * r → k ≤ 320 → (k < t.length → k = (t.take k).length) → txa S z (ev_b g) 0 ((t.take k).map Int32.ofNat) → (∀ z, txa S z (ev_b g) 0 (t.map Int32.ofNat) → Q (.inl (some (ev_i 1))) z) → ev_E g m_L_feeds 6 r 4 [some (ev_o 9 (ev_b g)), some (ev_o 13 b), some (ev_i (Int32.ofNat (t.take k).length)), some (ev_i (Int32.ofNat k))] [] z Q := by
    intro r
    induction r with
    | zero =>
      intro k z Q hk hk3 hk2 hz hQ
      have hsz := st_kept hw hs hz.1 hz.2.1
      obtain ⟨h5, v, hv, hb, hc, ht⟩ := hsz
      have hk : t.length ≤ k := by omega
      refine ev_iload_n ((Int32.ofNat k)) dL_feeds_4 rfl ?_
      refine ev_aload_n (ev_o 13 b) dL_feeds_5 rfl rfl ?_
      refine ev_fV mv_J0_length_8abf5 2 13 [] [ev_i (Int32.ofNat k)] dL_feeds_6 kw_1894 rfl (by decide) rfl (by decide) (Nat.le_of_ble_eq_true rfl) (s_len hv hb hc) ?_ rfl
      refine ev_icmp_ge 59 dL_feeds_9 (by decide) (fun _ => ?_) (fun h9 => absurd (show nI t.length ≤ nI k from nI_le hk (by omega)) h9)
      refine ev_iload_n ((Int32.ofNat (t.take k).length)) dL_feeds_59 rfl ?_
      refine ev_aload_n (ev_o 13 b) dL_feeds_60 rfl rfl ?_
      refine ev_fV mv_J0_length_8abf5 2 13 [] [ev_i (Int32.ofNat (t.take k).length)] dL_feeds_61 kw_1894 rfl (by decide) rfl (by decide) (Nat.le_of_ble_eq_true rfl) (s_len hv hb hc) ?_ rfl
      refine ev_icmp_ne 71 dL_feeds_64 (by decide) (fun h9 => absurd (by rw [List.take_of_length_le hk]) h9) (fun _ => ?_)
      refine ev_iconst (1) dL_feeds_67 rfl ?_
      refine ev_goto 72 dL_feeds_68 (by decide) ?_
      refine ev_ireturn .boolean dL_feeds_72 rfl rfl (hQ z ?_)
      rw [List.take_of_length_le hk] at hz
      exact hz
    | succ r ih =>
      intro k z Q hkr hk3 hk2 hz hQ
      have hsz := st_kept hw hs hz.1 hz.2.1
      have hsz' := hsz
      obtain ⟨h5, v, hv, hb, hc, ht⟩ := hsz'
      refine ev_iload_n ((Int32.ofNat k)) dL_feeds_4 rfl ?_
      refine ev_aload_n (ev_o 13 b) dL_feeds_5 rfl rfl ?_
      refine ev_fV mv_J0_length_8abf5 2 13 [] [ev_i (Int32.ofNat k)] dL_feeds_6 kw_1894 rfl (by decide) rfl (by decide) (Nat.le_of_ble_eq_true rfl) (s_len hv hb hc) ?_ rfl
      by_cases hk : t.length ≤ k
      · skip
        refine ev_icmp_ge 59 dL_feeds_9 (by decide) (fun _ => ?_) (fun h9 => absurd (show nI t.length ≤ nI k from nI_le hk (by omega)) h9)
        refine ev_iload_n ((Int32.ofNat (t.take k).length)) dL_feeds_59 rfl ?_
        refine ev_aload_n (ev_o 13 b) dL_feeds_60 rfl rfl ?_
        refine ev_fV mv_J0_length_8abf5 2 13 [] [ev_i (Int32.ofNat (t.take k).length)] dL_feeds_61 kw_1894 rfl (by decide) rfl (by decide) (Nat.le_of_ble_eq_true rfl) (s_len hv hb hc) ?_ rfl
        refine ev_icmp_ne 71 dL_feeds_64 (by decide) (fun h9 => absurd (by rw [List.take_of_length_le hk]) h9) (fun _ => ?_)
        refine ev_iconst (1) dL_feeds_67 rfl ?_
        refine ev_goto 72 dL_feeds_68 (by decide) ?_
        refine ev_ireturn .boolean dL_feeds_72 rfl rfl (hQ z ?_)
        rw [List.take_of_length_le hk] at hz
        exact hz
      have hkl := hk2 (by omega)
      have hcnt : z.1 (ev_b g + 1) 1 = Int32.ofNat k := by
        rw [hz.2.2.1, List.length_map, ← hkl]
        exact congrArg Int32.ofNat (by omega)
      refine ev_icmp_ge 59 dL_feeds_9 (by decide) (fun h9 => absurd h9 (show ¬ nI t.length ≤ nI k from nI_ge (by omega) (by omega))) (fun _ => ?_)
      refine ev_aload_n (ev_o 9 (ev_b g)) dL_feeds_12 rfl rfl ?_
      refine ev_aload_n (ev_o 13 b) dL_feeds_13 rfl rfl ?_
      refine ev_iload_n ((Int32.ofNat k)) dL_feeds_14 rfl ?_
      refine ev_fS ms_L_four 5 [ev_o 13 b, ev_i (Int32.ofNat (k))] [ev_o 9 (ev_b g)] dL_feeds_15 kw_1895 rfl (by decide) (Nat.le_of_ble_eq_true rfl) (w_four hsz (by omega) ha1 (by omega)) ?_ rfl
      refine ev_aload_n (ev_o 13 b) dL_feeds_18 rfl rfl ?_
      refine ev_iload_n ((Int32.ofNat k)) dL_feeds_19 rfl ?_
      refine ev_iconst (4) dL_feeds_20 rfl ?_
      refine ev_iadd dL_feeds_21 ?_
      refine ev_ke (v' := Int32.ofNat (k + 4)) ((nI_add k 4 : nI k + nI 4 = nI (k + 4))) ?_
      refine ev_fS ms_L_four 5 [ev_o 13 b, ev_i (Int32.ofNat (k + 4))] [ev_i (Int32.ofNat (jb_4 t (k))), ev_o 9 (ev_b g)] dL_feeds_22 kw_1895 rfl (by decide) (Nat.le_of_ble_eq_true rfl) (w_four hsz (by omega) ha1 (by omega)) ?_ rfl
      refine ev_aload_n (ev_o 13 b) dL_feeds_25 rfl rfl ?_
      refine ev_iload_n ((Int32.ofNat k)) dL_feeds_26 rfl ?_
      refine ev_bipush (8) dL_feeds_27 (by decide) ?_
      refine ev_iadd dL_feeds_29 ?_
      refine ev_ke (v' := Int32.ofNat (k + 8)) ((nI_add k 8 : nI k + nI 8 = nI (k + 8))) ?_
      refine ev_fS ms_L_four 5 [ev_o 13 b, ev_i (Int32.ofNat (k + 8))] [ev_i (Int32.ofNat (jb_4 t (k + 4))), ev_i (Int32.ofNat (jb_4 t (k))), ev_o 9 (ev_b g)] dL_feeds_30 kw_1895 rfl (by decide) (Nat.le_of_ble_eq_true rfl) (w_four hsz (by omega) ha1 (by omega)) ?_ rfl
      refine ev_aload_n (ev_o 13 b) dL_feeds_33 rfl rfl ?_
      refine ev_iload_n ((Int32.ofNat k)) dL_feeds_34 rfl ?_
      refine ev_bipush (12) dL_feeds_35 (by decide) ?_
      refine ev_iadd dL_feeds_37 ?_
      refine ev_ke (v' := Int32.ofNat (k + 12)) ((nI_add k 12 : nI k + nI 12 = nI (k + 12))) ?_
      refine ev_fS ms_L_four 5 [ev_o 13 b, ev_i (Int32.ofNat (k + 12))] [ev_i (Int32.ofNat (jb_4 t (k + 8))), ev_i (Int32.ofNat (jb_4 t (k + 4))), ev_i (Int32.ofNat (jb_4 t (k))), ev_o 9 (ev_b g)] dL_feeds_38 kw_1895 rfl (by decide) (Nat.le_of_ble_eq_true rfl) (w_four hsz (by omega) ha1 (by omega)) ?_ rfl
      refine ev_aload_n (ev_o 13 b) dL_feeds_41 rfl rfl ?_
      refine ev_iload_n ((Int32.ofNat k)) dL_feeds_42 rfl ?_
      refine ev_bipush (16) dL_feeds_43 (by decide) ?_
      refine ev_iadd dL_feeds_45 ?_
      refine ev_ke (v' := Int32.ofNat (k + 16)) ((nI_add k 16 : nI k + nI 16 = nI (k + 16))) ?_
      refine ev_fS ms_L_four 5 [ev_o 13 b, ev_i (Int32.ofNat (k + 16))] [ev_i (Int32.ofNat (jb_4 t (k + 12))), ev_i (Int32.ofNat (jb_4 t (k + 8))), ev_i (Int32.ofNat (jb_4 t (k + 4))), ev_i (Int32.ofNat (jb_4 t (k))), ev_o 9 (ev_b g)] dL_feeds_46 kw_1895 rfl (by decide) (Nat.le_of_ble_eq_true rfl) (w_four hsz (by omega) ha1 (by omega)) ?_ rfl
      refine ev_cV mv_X9_append 4 1 9 [ev_i (Int32.ofNat (jb_4 t (k))), ev_i (Int32.ofNat (jb_4 t (k + 4))), ev_i (Int32.ofNat (jb_4 t (k + 8))), ev_i (Int32.ofNat (jb_4 t (k + 12))), ev_i (Int32.ofNat (jb_4 t (k + 16)))] [] dL_feeds_49 kw_1899 rfl (by decide) rfl (by decide) (Nat.le_add_left 1 r) (Nat.le_of_ble_eq_true rfl) (w_append (Q := fun o y => ∃ W, W = ((t.drop k).take 20).map Int32.ofNat ∧ o = .inl (some (ev_i (Int32.ofNat (k + W.length)))) ∧ txa z y (ev_b g) k W) (jb_b20 ha k) hcnt (by rw [List.length_map, List.length_take]; omega) (fun y hy => ⟨_, rfl, rfl, hy⟩)) ?_ rfl
      rintro o1 y ⟨W, hW, rfl, hy⟩
      show ev_E g m_L_feeds (6) (r) 52 [some (ev_o 9 (ev_b g)), some (ev_o 13 b), some (ev_i (Int32.ofNat (t.take k).length)), some (ev_i (Int32.ofNat k))] [ev_i (Int32.ofNat (k + W.length))] (y) Q
      refine ev_istore_n dL_feeds_52 (Nat.le_of_ble_eq_true rfl) (ev_hw rfl) ?_
      show ev_E g m_L_feeds (6) (r) 53 [some (ev_o 9 (ev_b g)), some (ev_o 13 b), some (ev_i (Int32.ofNat (k + W.length))), some (ev_i (Int32.ofNat k))] [] (y) Q
      refine ev_iinc ((Int32.ofNat k)) (20) dL_feeds_53 rfl (by decide) (ev_hw rfl) ?_
      show ev_E g m_L_feeds (6) (r) 56 [some (ev_o 9 (ev_b g)), some (ev_o 13 b), some (ev_i (Int32.ofNat (k + W.length))), some (ev_i ((Int32.ofNat k) + 20))] [] (y) Q
      have hdl : W.length = min 20 (t.length - k) := by rw [hW, List.length_map, List.length_take, List.length_drop]
      have htk : t.take (k + 20) = t.take k ++ (t.drop k).take 20 := List.take_add
      have hlen : (t.take (k + 20)).length = k + W.length := by rw [htk, List.length_append, ← hkl, hW, List.length_map]
      rw [show Int32.ofNat k + 20 = Int32.ofNat (k + 20) from nI_add k 20, ← hlen]
      refine ev_goto 4 dL_feeds_56 (by decide) (ih (k + 20) y Q (by omega) (by omega) (fun h9 => by rw [hlen]; omega) ?_ hQ)
      have h0 : txa z y (ev_b g) (0 + ((t.take k).map Int32.ofNat).length) W := by
        rw [List.length_map, ← hkl, Nat.zero_add]
        exact hy
      have h9 := txa_tr hz h0
      rw [hW, ← List.map_append, ← htk] at h9
      exact h9
  refine ev_enter (by decide) rfl rfl (Nat.le_of_ble_eq_true rfl) ?_
  show ev_E g m_L_feeds (6) (16) 0 [some (ev_o 9 (ev_b g)), some (ev_o 13 b), none, none] [] (S) _
  refine ev_iconst (0) dL_feeds_0 rfl ?_
  refine ev_istore_n dL_feeds_1 (Nat.le_of_ble_eq_true rfl) (ev_hw rfl) ?_
  show ev_E g m_L_feeds (6) (16) 2 [some (ev_o 9 (ev_b g)), some (ev_o 13 b), some (ev_i (0)), none] [] (S) _
  refine ev_iconst (0) dL_feeds_2 rfl ?_
  refine ev_istore_n dL_feeds_3 (Nat.le_of_ble_eq_true rfl) (ev_hw rfl) ?_
  show ev_E g m_L_feeds (6) (16) 4 [some (ev_o 9 (ev_b g)), some (ev_o 13 b), some (ev_i (0)), some (ev_i (0))] [] (S) _
  refine key 16 0 S _ (by omega) (by omega) (fun _ => rfl) ⟨rfl, fun _ _ _ => rfl, hc0, rfl⟩ (fun z hz => ⟨rfl, hz⟩)
