/-! ===== a builder takes a number of one or two digits (printed by gen_y23.py) ===== -/
def jb_dec (x : Nat) : List Nat := if x < 10 then [48 + x % 10] else [48 + x / 10, 48 + x % 10]
theorem jb_num : ∀ x, x < 100 → ¬ Int32.ofNat x < 0 ∧ ¬ (Int32.ofNat x) < 0 ∧ 0 ≤ Int32.ofNat x ∧ (-Int32.ofNat x ≤ -10 ↔ 10 ≤ x) ∧ ¬ (-Int32.ofNat x ≤ 10 * -10) ∧ -100 < -Int32.ofNat x ∧ (-9 ≤ -Int32.ofNat x ↔ x < 10) ∧ -(-Int32.ofNat x) = Int32.ofNat x := by decide +kernel
theorem jb_dec_len {x : Nat} : (jb_dec x).length = if x < 10 then 1 else 2 := by
  unfold jb_dec
  split <;> rfl
theorem jb_dec_ok : ∀ x, x < 100 → ∀ j, j < (jb_dec x).length → (jb_dec x).getD j 0 < 128 := by decide +kernel
set_option maxHeartbeats 4000000 in
set_option maxRecDepth 100000 in
theorem c_size {g : ev_G} {S : ev_S} {x : Nat} (hx0 : x < 100) : ev_Fn g m_J6_stringSize_0f7a4 1 [ev_i (Int32.ofNat x)] S (some (ev_i (Int32.ofNat (jb_dec x).length))) S := by
  intro Q hQ
  obtain ⟨h1, h2, h3, h4, h5, h6, h7, h8⟩ := jb_num x hx0
  refine ev_enter (by decide) rfl rfl (Nat.le_of_ble_eq_true rfl) ?_
  show ev_E g m_J6_stringSize_0f7a4 (1) (0) 0 [some (ev_i (Int32.ofNat x)), none, none, none] [] (S) Q
  refine ev_iconst (1) dJ6_stringSize_0f7a4_0 rfl ?_
  refine ev_istore_n dJ6_stringSize_0f7a4_1 (Nat.le_of_ble_eq_true rfl) (ev_hw rfl) ?_
  show ev_E g m_J6_stringSize_0f7a4 (1) (0) 2 [some (ev_i (Int32.ofNat x)), some (ev_i (1)), none, none] [] (S) Q
  refine ev_iload_n ((Int32.ofNat x)) dJ6_stringSize_0f7a4_2 rfl ?_
  refine ev_if_lt 11 dJ6_stringSize_0f7a4_3 (by decide) (fun h9 => absurd h9 (h1)) (fun _ => ?_)
  refine ev_iconst (0) dJ6_stringSize_0f7a4_6 rfl ?_
  refine ev_istore_n dJ6_stringSize_0f7a4_7 (Nat.le_of_ble_eq_true rfl) (ev_hw rfl) ?_
  show ev_E g m_J6_stringSize_0f7a4 (1) (0) 8 [some (ev_i (Int32.ofNat x)), some (ev_i (0)), none, none] [] (S) Q
  refine ev_iload_n ((Int32.ofNat x)) dJ6_stringSize_0f7a4_8 rfl ?_
  refine ev_ineg dJ6_stringSize_0f7a4_9 ?_
  refine ev_istore_n dJ6_stringSize_0f7a4_10 (Nat.le_of_ble_eq_true rfl) (ev_hw rfl) ?_
  show ev_E g m_J6_stringSize_0f7a4 (1) (0) 11 [some (ev_i (-(Int32.ofNat x))), some (ev_i (0)), none, none] [] (S) Q
  refine ev_bipush (-10) dJ6_stringSize_0f7a4_11 (by decide) ?_
  refine ev_istore_n dJ6_stringSize_0f7a4_13 (Nat.le_of_ble_eq_true rfl) (ev_hw rfl) ?_
  show ev_E g m_J6_stringSize_0f7a4 (1) (0) 14 [some (ev_i (-(Int32.ofNat x))), some (ev_i (0)), some (ev_i (-10)), none] [] (S) Q
  refine ev_iconst (1) dJ6_stringSize_0f7a4_14 rfl ?_
  refine ev_istore_n dJ6_stringSize_0f7a4_15 (Nat.le_of_ble_eq_true rfl) (ev_hw rfl) ?_
  show ev_E g m_J6_stringSize_0f7a4 (1) (0) 16 [some (ev_i (-(Int32.ofNat x))), some (ev_i (0)), some (ev_i (-10)), some (ev_i (1))] [] (S) Q
  refine ev_iload_n ((1)) dJ6_stringSize_0f7a4_16 rfl ?_
  refine ev_bipush (10) dJ6_stringSize_0f7a4_17 (by decide) ?_
  refine ev_icmp_ge 42 dJ6_stringSize_0f7a4_19 (by decide) (fun h9 => absurd h9 (by decide)) (fun _ => ?_)
  refine ev_iload_n ((-(Int32.ofNat x))) dJ6_stringSize_0f7a4_22 rfl ?_
  refine ev_iload_n ((-10)) dJ6_stringSize_0f7a4_23 rfl ?_
  by_cases hx : x < 10
  · rw [jb_dec_len, if_pos hx] at hQ
    refine ev_icmp_le 31 dJ6_stringSize_0f7a4_24 (by decide) (fun h9 => absurd h9 (fun h9 => by have := h4.mp h9; omega)) (fun _ => ?_)
    refine ev_iload_n ((1)) dJ6_stringSize_0f7a4_27 rfl ?_
    refine ev_iload_n ((0)) dJ6_stringSize_0f7a4_28 rfl ?_
    refine ev_iadd dJ6_stringSize_0f7a4_29 ?_
    exact ev_ireturn .int dJ6_stringSize_0f7a4_30 rfl rfl hQ
  · rw [jb_dec_len, if_neg hx] at hQ
    refine ev_icmp_le 31 dJ6_stringSize_0f7a4_24 (by decide) (fun _ => ?_) (fun h9 => absurd (h4.mpr (by omega)) h9)
    refine ev_bipush (10) dJ6_stringSize_0f7a4_31 (by decide) ?_
    refine ev_iload_n ((-10)) dJ6_stringSize_0f7a4_33 rfl ?_
    refine ev_imul dJ6_stringSize_0f7a4_34 ?_
    refine ev_istore_n dJ6_stringSize_0f7a4_35 (Nat.le_of_ble_eq_true rfl) (ev_hw rfl) ?_
    show ev_E g m_J6_stringSize_0f7a4 (1) (0) 36 [some (ev_i (-(Int32.ofNat x))), some (ev_i (0)), some (ev_i ((10) * (-10))), some (ev_i (1))] [] (S) Q
    refine ev_iinc ((1)) (1) dJ6_stringSize_0f7a4_36 rfl (by decide) (ev_hw rfl) ?_
    show ev_E g m_J6_stringSize_0f7a4 (1) (0) 39 [some (ev_i (-(Int32.ofNat x))), some (ev_i (0)), some (ev_i ((10) * (-10))), some (ev_i ((1) + 1))] [] (S) Q
    refine ev_goto 16 dJ6_stringSize_0f7a4_39 (by decide) ?_
    refine ev_iload_n (((1) + 1)) dJ6_stringSize_0f7a4_16 rfl ?_
    refine ev_bipush (10) dJ6_stringSize_0f7a4_17 (by decide) ?_
    refine ev_icmp_ge 42 dJ6_stringSize_0f7a4_19 (by decide) (fun h9 => absurd h9 (by decide)) (fun _ => ?_)
    refine ev_iload_n ((-(Int32.ofNat x))) dJ6_stringSize_0f7a4_22 rfl ?_
    refine ev_iload_n (((10) * (-10))) dJ6_stringSize_0f7a4_23 rfl ?_
    refine ev_icmp_le 31 dJ6_stringSize_0f7a4_24 (by decide) (fun h9 => absurd h9 (h5)) (fun _ => ?_)
    refine ev_iload_n (((1) + 1)) dJ6_stringSize_0f7a4_27 rfl ?_
    refine ev_iload_n ((0)) dJ6_stringSize_0f7a4_28 rfl ?_
    refine ev_iadd dJ6_stringSize_0f7a4_29 ?_
    exact ev_ireturn .int dJ6_stringSize_0f7a4_30 rfl rfl hQ
/-- the digits of x end ahead of place n of the bytes v -/
def jb_chs (S z : ev_S) (v n x : Nat) : Prop := z.2 = S.2 ∧ (∀ c, c ≠ v → z.1 c = S.1 c) ∧ jb_fi (z.1 v) ∧ (∀ j, j + (jb_dec x).length < n + 0 ∨ n ≤ j → j + (jb_dec x).length < n ∨ n ≤ j → z.1 v j = S.1 v j) ∧ ∀ j, j < (jb_dec x).length → z.1 v (n - (jb_dec x).length + j) = Int32.ofNat ((jb_dec x).getD j 0)
theorem jb_ch1 {S z : ev_S} {v n x m : Nat} (hx : x < 10) (hf : jb_fi (S.1 v)) (hn : (if x < 10 then 1 else 2) ≤ n) (hn1 : 1 ≤ n) (hm : n ≤ m) (e : z = ev_up S v (n - 1) (Int32.ofNat (48 + x % 10))) : jb_chs S z v n x := by
  have hl : (jb_dec x).length = 1 := by rw [jb_dec_len, if_pos hx]
  have hd : jb_dec x = [48 + x % 10] := by unfold jb_dec; rw [if_pos hx]
  have ez : ∀ c, z.1 c = va_up S.1 v (upd (S.1 v) (n - 1) (Int32.ofNat (48 + x % 10))) c := fun c => by rw [e]; rfl
  have ev : z.1 v = upd (S.1 v) (n - 1) (Int32.ofNat (48 + x % 10)) := by rw [ez, va_up_self]
  refine ⟨by rw [e]; rfl, fun c hc => by rw [ez, va_up_ne _ _ hc], by rw [ev]; exact jb_fiU hf (by omega), fun j hj _ => by rw [hl] at hj; rw [ev, pk_un (by omega)], fun j hj => ?_⟩
  rw [hl] at hj ⊢
  obtain rfl : j = 0 := by omega
  rw [ev, hd, Nat.add_zero, pk_us]
  rfl
theorem jb_ch2 {S z : ev_S} {v n x m : Nat} (hx : ¬ x < 10) (hx0 : x < 100) (hf : jb_fi (S.1 v)) (hn : 2 ≤ n) (hm : n ≤ m) (e : z = ev_up (ev_up S v (n - 1) (Int32.ofNat (48 + x % 10))) v (n - 1 - 1) (Int32.ofNat (48 + x / 10))) : jb_chs S z v n x := by
  have hl : (jb_dec x).length = 2 := by rw [jb_dec_len, if_neg hx]
  have hd : jb_dec x = [48 + x / 10, 48 + x % 10] := by unfold jb_dec; rw [if_neg hx]
  have ez : ∀ c, z.1 c = va_up (va_up S.1 v (upd (S.1 v) (n - 1) (Int32.ofNat (48 + x % 10)))) v (upd (va_up S.1 v (upd (S.1 v) (n - 1) (Int32.ofNat (48 + x % 10))) v) (n - 1 - 1) (Int32.ofNat (48 + x / 10))) c := fun c => by rw [e]; rfl
  have ev : z.1 v = upd (upd (S.1 v) (n - 1) (Int32.ofNat (48 + x % 10))) (n - 1 - 1) (Int32.ofNat (48 + x / 10)) := by rw [ez, va_up_self, va_up_self]
  refine ⟨by rw [e]; rfl, fun c hc => by rw [ez, va_up_ne _ _ hc, va_up_ne _ _ hc], by rw [ev]; exact jb_fiU (jb_fiU hf (by omega)) (by omega), fun j hj _ => by rw [hl] at hj; rw [ev, pk_un (by omega), pk_un (by omega)], fun j hj => ?_⟩
  rw [hl] at hj ⊢
  have : j = 0 ∨ j = 1 := by omega
  rcases this with rfl | rfl
  · rw [ev, hd, show n - 2 + 0 = n - 1 - 1 by omega, pk_us]
    rfl
  · rw [ev, hd, show n - 2 + 1 = n - 1 by omega, pk_un (by omega), pk_us]
    rfl
set_option maxHeartbeats 4000000 in
set_option maxRecDepth 100000 in
theorem c_chars {g : ev_G} {S : ev_S} {x n m v : Nat} (hx0 : x < 100) (hf : jb_fi (S.1 v)) (hn : (jb_dec x).length ≤ n) (hm : n ≤ m) (hm2 : m ≤ 700) : ev_Cv g m_J6_getChars_ba4f3 1 0 [ev_i (Int32.ofNat x), ev_i (Int32.ofNat n), ev_o (1000 + m) v] S (fun o z => (∃ y, o = .inl (some (ev_i y))) ∧ jb_chs S z v n x) := by
  obtain ⟨h1, h2, h3, h4, h5, h6, h7, h8⟩ := jb_num x hx0
  rw [jb_dec_len] at hn
  have hn1 : 1 ≤ n := by split at hn <;> omega
  refine ev_enter (by decide) rfl rfl (Nat.le_of_ble_eq_true rfl) ?_
  show ev_E g m_J6_getChars_ba4f3 (1) (0) 0 [some (ev_i (Int32.ofNat x)), some (ev_i (Int32.ofNat n)), some (ev_o (1000 + m) v), none, none, none, none] [] (S) _
  refine ev_iload_n ((Int32.ofNat n)) dJ6_getChars_ba4f3_0 rfl ?_
  refine ev_istore dJ6_getChars_ba4f3_1 (Nat.le_of_ble_eq_true rfl) (ev_hw rfl) ?_
  show ev_E g m_J6_getChars_ba4f3 (1) (0) 3 [some (ev_i (Int32.ofNat x)), some (ev_i (Int32.ofNat n)), some (ev_o (1000 + m) v), none, none, some (ev_i (Int32.ofNat n)), none] [] (S) _
  refine ev_iload_n ((Int32.ofNat x)) dJ6_getChars_ba4f3_3 rfl ?_
  refine ev_if_ge 11 dJ6_getChars_ba4f3_4 (by decide) (fun _ => ?_) (fun h9 => absurd (h3) h9)
  refine ev_iconst (0) dJ6_getChars_ba4f3_11 rfl ?_
  refine ev_istore dJ6_getChars_ba4f3_12 (Nat.le_of_ble_eq_true rfl) (ev_hw rfl) ?_
  show ev_E g m_J6_getChars_ba4f3 (1) (0) 14 [some (ev_i (Int32.ofNat x)), some (ev_i (Int32.ofNat n)), some (ev_o (1000 + m) v), none, none, some (ev_i (Int32.ofNat n)), some (ev_i (0))] [] (S) _
  refine ev_iload ((0)) dJ6_getChars_ba4f3_14 rfl ?_
  refine ev_if_ne 22 dJ6_getChars_ba4f3_16 (by decide) (fun h9 => absurd (rfl) h9) (fun _ => ?_)
  refine ev_iload_n ((Int32.ofNat x)) dJ6_getChars_ba4f3_19 rfl ?_
  refine ev_ineg dJ6_getChars_ba4f3_20 ?_
  refine ev_istore_n dJ6_getChars_ba4f3_21 (Nat.le_of_ble_eq_true rfl) (ev_hw rfl) ?_
  show ev_E g m_J6_getChars_ba4f3 (1) (0) 22 [some (ev_i (-(Int32.ofNat x))), some (ev_i (Int32.ofNat n)), some (ev_o (1000 + m) v), none, none, some (ev_i (Int32.ofNat n)), some (ev_i (0))] [] (S) _
  refine ev_iload_n ((-(Int32.ofNat x))) dJ6_getChars_ba4f3_22 rfl ?_
  refine ev_bipush (-100) dJ6_getChars_ba4f3_23 (by decide) ?_
  refine ev_icmp_gt 72 dJ6_getChars_ba4f3_25 (by decide) (fun _ => ?_) (fun h9 => absurd (h6) h9)
  refine ev_aload_n (ev_o (1000 + m) v) dJ6_getChars_ba4f3_72 rfl rfl ?_
  refine ev_iinc ((Int32.ofNat n)) (-1) dJ6_getChars_ba4f3_73 rfl (by decide) (ev_hw rfl) ?_
  show ev_E g m_J6_getChars_ba4f3 (1) (0) 76 [some (ev_i (-(Int32.ofNat x))), some (ev_i (Int32.ofNat n)), some (ev_o (1000 + m) v), none, none, some (ev_i ((Int32.ofNat n) + (-1))), some (ev_i (0))] [ev_o (1000 + m) v] (S) _
  refine ev_iload (((Int32.ofNat n) + (-1))) dJ6_getChars_ba4f3_76 rfl ?_
  refine ev_ke (v' := Int32.ofNat (n - 1)) (sb_m1 (by omega)) ?_
  refine ev_dig1 dJ6_getChars_ba4f3_78 kw_1805 ?_
  refine ev_iload_n ((-(Int32.ofNat x))) dJ6_getChars_ba4f3_81 rfl ?_
  refine ev_ineg dJ6_getChars_ba4f3_82 ?_
  refine ev_ke (v' := Int32.ofNat x) (h8) ?_
  refine ev_dat1 dJ6_getChars_ba4f3_83 (show vp_in (nI x) 100 from vp_in_nI hx0 (by omega)) ?_
  refine ev_ke (v' := Int32.ofNat (48 + x % 10)) (by rw [show (Int32.ofNat x).toNatClampNeg = x from nI_clamp (by omega)]; rfl) ?_
  refine ev_basB dJ6_getChars_ba4f3_84 (show vp_in (nI (n - 1)) m from vp_in_nI (by omega) (by omega)) (jb_nar _ (by omega)).1 ?_
  rw [show (Int32.ofNat (n - 1)).toNatClampNeg = n - 1 from nI_clamp (by omega)]
  show ev_E g m_J6_getChars_ba4f3 (1) (0) 85 [some (ev_i (-(Int32.ofNat x))), some (ev_i (Int32.ofNat n)), some (ev_o (1000 + m) v), none, none, some (ev_i ((Int32.ofNat n) + (-1))), some (ev_i (0))] [] (ev_up S v (n - 1) (Int32.ofNat (48 + x % 10))) _
  refine ev_iload_n ((-(Int32.ofNat x))) dJ6_getChars_ba4f3_85 rfl ?_
  refine ev_bipush (-9) dJ6_getChars_ba4f3_86 (by decide) ?_
  by_cases hx : x < 10
  · skip
    refine ev_icmp_ge 104 dJ6_getChars_ba4f3_88 (by decide) (fun _ => ?_) (fun h9 => absurd (h7.mpr hx) h9)
    refine ev_iload ((0)) dJ6_getChars_ba4f3_104 rfl ?_
    refine ev_if_eq 118 dJ6_getChars_ba4f3_106 (by decide) (fun _ => ?_) (fun h9 => absurd (rfl) h9)
    refine ev_iload (((Int32.ofNat n) + (-1))) dJ6_getChars_ba4f3_118 rfl ?_
    exact ev_ireturn .int dJ6_getChars_ba4f3_120 rfl rfl ⟨⟨_, rfl⟩, jb_ch1 hx hf hn (by omega) hm rfl⟩
  · rw [if_neg hx] at hn
    refine ev_icmp_ge 104 dJ6_getChars_ba4f3_88 (by decide) (fun h9 => absurd h9 (fun h9 => hx (h7.mp h9))) (fun _ => ?_)
    refine ev_aload_n (ev_o (1000 + m) v) dJ6_getChars_ba4f3_91 rfl rfl ?_
    refine ev_iinc (((Int32.ofNat n) + (-1))) (-1) dJ6_getChars_ba4f3_92 rfl (by decide) (ev_hw rfl) ?_
    show ev_E g m_J6_getChars_ba4f3 (1) (0) 95 [some (ev_i (-(Int32.ofNat x))), some (ev_i (Int32.ofNat n)), some (ev_o (1000 + m) v), none, none, some (ev_i (((Int32.ofNat n) + (-1)) + (-1))), some (ev_i (0))] [ev_o (1000 + m) v] (ev_up S v (n - 1) (Int32.ofNat (48 + x % 10))) _
    refine ev_iload ((((Int32.ofNat n) + (-1)) + (-1))) dJ6_getChars_ba4f3_95 rfl ?_
    refine ev_ke (v' := Int32.ofNat (n - 1 - 1)) (by show nI n + -1 + -1 = nI (n - 1 - 1); rw [sb_m1 (show 0 < n by omega)]; exact sb_m1 (show 0 < n - 1 by omega)) ?_
    refine ev_dig2 dJ6_getChars_ba4f3_97 kw_1807 ?_
    refine ev_iload_n ((-(Int32.ofNat x))) dJ6_getChars_ba4f3_100 rfl ?_
    refine ev_ineg dJ6_getChars_ba4f3_101 ?_
    refine ev_ke (v' := Int32.ofNat x) (h8) ?_
    refine ev_dat2 dJ6_getChars_ba4f3_102 (show vp_in (nI x) 100 from vp_in_nI hx0 (by omega)) ?_
    refine ev_ke (v' := Int32.ofNat (48 + x / 10)) (by rw [show (Int32.ofNat x).toNatClampNeg = x from nI_clamp (by omega)]; rfl) ?_
    refine ev_basB dJ6_getChars_ba4f3_103 (show vp_in (nI (n - 1 - 1)) m from vp_in_nI (by omega) (by omega)) (jb_nar _ (by omega)).1 ?_
    rw [show (Int32.ofNat (n - 1 - 1)).toNatClampNeg = n - 1 - 1 from nI_clamp (by omega)]
    show ev_E g m_J6_getChars_ba4f3 (1) (0) 104 [some (ev_i (-(Int32.ofNat x))), some (ev_i (Int32.ofNat n)), some (ev_o (1000 + m) v), none, none, some (ev_i (((Int32.ofNat n) + (-1)) + (-1))), some (ev_i (0))] [] (ev_up (ev_up S v (n - 1) (Int32.ofNat (48 + x % 10))) v (n - 1 - 1) (Int32.ofNat (48 + x / 10))) _
    refine ev_iload ((0)) dJ6_getChars_ba4f3_104 rfl ?_
    refine ev_if_eq 118 dJ6_getChars_ba4f3_106 (by decide) (fun _ => ?_) (fun h9 => absurd (rfl) h9)
    refine ev_iload ((((Int32.ofNat n) + (-1)) + (-1))) dJ6_getChars_ba4f3_118 rfl ?_
    exact ev_ireturn .int dJ6_getChars_ba4f3_120 rfl rfl ⟨⟨_, rfl⟩, jb_ch2 hx hx0 hf hn hm rfl⟩
set_option maxHeartbeats 4000000 in
set_option maxRecDepth 100000 in
theorem c_appI5 {g : ev_G} {S : ev_S} {a x : Nat} {t : List Nat} (h : sb_is S a t) (h2 : t.length + (jb_dec x).length ≤ 300) (h3 : x < 100) : ev_Cv g m_J5_append_c97b9 4 101 [ev_o 12 a, ev_i (Int32.ofNat x)] S (fun o z => o = .inl (some (ev_o 12 a)) ∧ sb_fr g S z ∧ sb_is z a (t ++ jb_dec x)) := by
  obtain ⟨m, v, h⟩ := h
  have hn := h.2.2.2.2.1
  refine ev_enter (by decide) rfl rfl (Nat.le_of_ble_eq_true rfl) ?_
  show ev_E g m_J5_append_c97b9 (4) (101) 0 [some (ev_o 12 a), some (ev_i (Int32.ofNat x)), none, none] [] (S) _
  refine ev_aload_n (ev_o 12 a) dJ5_append_c97b9_0 rfl rfl ?_
  refine gf_12_3 dJ5_append_c97b9_1 kw_1783 ?_
  refine ev_ke (v' := Int32.ofNat t.length) (hn) ?_
  refine ev_istore_n dJ5_append_c97b9_4 (Nat.le_of_ble_eq_true rfl) (ev_hw rfl) ?_
  show ev_E g m_J5_append_c97b9 (4) (101) 5 [some (ev_o 12 a), some (ev_i (Int32.ofNat x)), some (ev_i (Int32.ofNat t.length)), none] [] (S) _
  refine ev_iload_n ((Int32.ofNat t.length)) dJ5_append_c97b9_5 rfl ?_
  refine ev_iload_n ((Int32.ofNat x)) dJ5_append_c97b9_6 rfl ?_
  refine ev_fS ms_J6_stringSize_0f7a4 1 [ev_i (Int32.ofNat x)] [ev_i (Int32.ofNat t.length)] dJ5_append_c97b9_7 kw_1799 rfl (by decide) (Nat.le_of_ble_eq_true rfl) (c_size h3) ?_ rfl
  refine ev_iadd dJ5_append_c97b9_10 ?_
  refine ev_ke (v' := Int32.ofNat (t.length + (jb_dec x).length)) ((nI_add _ _ : nI t.length + nI (jb_dec x).length = nI (t.length + (jb_dec x).length))) ?_
  refine ev_istore_n dJ5_append_c97b9_11 (Nat.le_of_ble_eq_true rfl) (ev_hw rfl) ?_
  show ev_E g m_J5_append_c97b9 (4) (101) 12 [some (ev_o 12 a), some (ev_i (Int32.ofNat x)), some (ev_i (Int32.ofNat t.length)), some (ev_i (Int32.ofNat (t.length + (jb_dec x).length)))] [] (S) _
  refine ev_aload_n (ev_o 12 a) dJ5_append_c97b9_12 rfl rfl ?_
  refine ev_iload_n ((Int32.ofNat (t.length + (jb_dec x).length))) dJ5_append_c97b9_13 rfl ?_
  refine ev_callU m_J5_ensureCapacityInternal_d00df yJ5_ensureCapacityInternal_d00df RJ5 3 101 100 12 (n := 1) (a := a) (K := []) [ev_i (Int32.ofNat (t.length + (jb_dec x).length))] dJ5_append_c97b9_14 rfl rfl (by decide) kw_1698 kw_1700 kw_36 kw_1701 kv_1943 kw_1700 kw_1701 (Or.inr ⟨rfl, ⟨4, kw_1661⟩, kv_1699, kv_1943⟩) ⟨by decide, by decide, by decide +kernel⟩ rfl (by decide) (by decide) (by decide) (Nat.le_of_ble_eq_true rfl) (c_ens h h2) (fun k z h9 => by cases h9.1) ?_
  rintro o1 z1 ⟨rfl, f1, m', v', hm', h1⟩
  have h1' := h1
  obtain ⟨h0, hv, hb, hc, hn, hl, hm, hf, ht⟩ := h1'
  show ev_E g m_J5_append_c97b9 (4) (0) 17 [some (ev_o 12 a), some (ev_i (Int32.ofNat x)), some (ev_i (Int32.ofNat t.length)), some (ev_i (Int32.ofNat (t.length + (jb_dec x).length)))] [] (z1) _
  refine ev_aload_n (ev_o 12 a) dJ5_append_c97b9_17 rfl rfl ?_
  refine ev_callU m_J5_isLatin1_aae02 yJ5_isLatin1_aae02 RJ5 1 0 83 12 (n := 0) (a := a) (K := []) [] dJ5_append_c97b9_18 rfl rfl (by decide) kw_1726 kw_1727 kw_36 kw_1730 kv_1728 kw_1727 kw_1730 (Or.inl kw_1729) ⟨by decide, by decide, by decide +kernel⟩ rfl (by decide) (by decide) (by decide) (Nat.le_of_ble_eq_true rfl) (c_lat hc).cv (fun k z h9 => by cases h9.1) ?_
  rintro o9 z9 ⟨rfl, ez9⟩
  rw [ez9]
  clear ez9
  show ev_E g m_J5_append_c97b9 (4) (0) 21 [some (ev_o 12 a), some (ev_i (Int32.ofNat x)), some (ev_i (Int32.ofNat t.length)), some (ev_i (Int32.ofNat (t.length + (jb_dec x).length)))] [ev_i 1] (z1) _
  refine ev_if_eq 37 dJ5_append_c97b9_21 (by decide) (fun h9 => absurd h9 (by decide)) (fun _ => ?_)
  refine ev_iload_n ((Int32.ofNat x)) dJ5_append_c97b9_24 rfl ?_
  refine ev_iload_n ((Int32.ofNat (t.length + (jb_dec x).length))) dJ5_append_c97b9_25 rfl ?_
  refine ev_aload_n (ev_o 12 a) dJ5_append_c97b9_26 rfl rfl ?_
  refine gf_12_0 dJ5_append_c97b9_27 kw_1780 hv hb ?_
  refine ev_cS ms_J6_getChars_ba4f3 1 0 [ev_i (Int32.ofNat x), ev_i (Int32.ofNat (t.length + (jb_dec x).length)), ev_o (1000 + m') v'] [] dJ5_append_c97b9_30 kw_1802 rfl (by decide) (by decide) (Nat.le_of_ble_eq_true rfl) (c_chars h3 hf (by omega) hm' hm) ?_ rfl
  rintro o2 z2 ⟨⟨y, rfl⟩, hz⟩
  show ev_E g m_J5_append_c97b9 (4) (0) 33 [some (ev_o 12 a), some (ev_i (Int32.ofNat x)), some (ev_i (Int32.ofNat t.length)), some (ev_i (Int32.ofNat (t.length + (jb_dec x).length)))] [ev_i y] (z2) _
  refine ev_pop dJ5_append_c97b9_33 rfl ?_
  refine ev_goto 48 dJ5_append_c97b9_34 (by decide) ?_
  refine ev_aload_n (ev_o 12 a) dJ5_append_c97b9_48 rfl rfl ?_
  refine ev_iload_n ((Int32.ofNat (t.length + (jb_dec x).length))) dJ5_append_c97b9_49 rfl ?_
  refine pf_12_3 dJ5_append_c97b9_50 kw_1783 ?_
  refine ev_aload_n (ev_o 12 a) dJ5_append_c97b9_53 rfl rfl ?_
  refine ev_areturn (.object "java/lang/AbstractStringBuilder") dJ5_append_c97b9_54 rfl rfl (Or.inl ⟨_, rfl⟩) ⟨rfl, ?_⟩
  obtain ⟨k1, k2, k3, k4, k5⟩ := hz
  have hav := sb_ne f1.2.1 h1
  have ez : ∀ c', (ev_up z2 a 3 (Int32.ofNat (t.length + (jb_dec x).length))).1 c' = va_up z2.1 a (upd (z2.1 a) 3 (Int32.ofNat (t.length + (jb_dec x).length))) c' := fun _ => rfl
  have ev : (ev_up z2 a 3 (Int32.ofNat (t.length + (jb_dec x).length))).1 v' = z2.1 v' := by rw [ez, va_up_ne _ _ (Ne.symm hav)]
  refine sb_put (s := jb_dec x) f1 h1 hm' k1 ?_ ?_ ?_ ?_ ?_ ?_
  · intro c' h8 h9
    rw [ez, va_up_ne _ _ h8]
    exact k2 c' h9
  · rw [ez, va_up_self, pk_un (by decide), k2 a hav]
  · rw [ez, va_up_self, pk_us]
  · rw [ev]
    exact k3
  · intro j hj
    rw [ev]
    exact k4 j (Or.inl (by omega)) (Or.inl (by omega))
  · intro j hj
    rw [ev]
    have := k5 j hj
    rwa [Nat.add_sub_cancel] at this
set_option maxHeartbeats 4000000 in
set_option maxRecDepth 100000 in
theorem c_appI {g : ev_G} {S : ev_S} {a x : Nat} {t : List Nat} (h : sb_is S a t) (h2 : t.length + (jb_dec x).length ≤ 300) (h3 : x < 100) : ev_Cv g m_J4_append_bf812 5 101 [ev_o 12 a, ev_i (Int32.ofNat x)] S (fun o z => o = .inl (some (ev_o 12 a)) ∧ sb_fr g S z ∧ sb_is z a (t ++ jb_dec x)) := by
  refine ev_enter (by decide) rfl rfl (Nat.le_of_ble_eq_true rfl) ?_
  show ev_E g m_J4_append_bf812 (5) (101) 0 [some (ev_o 12 a), some (ev_i (Int32.ofNat x))] [] (S) _
  refine ev_aload_n (ev_o 12 a) dJ4_append_bf812_0 rfl rfl ?_
  refine ev_iload_n ((Int32.ofNat x)) dJ4_append_bf812_1 rfl ?_
  refine ev_callSU m_J5_append_c97b9 4 101 53 12 (n := 1) (a := a) (K := []) [ev_i (Int32.ofNat x)] dJ4_append_bf812_2 rfl rfl (by decide) (by decide) kw_1796 kw_1797 kw_36 kw_1798 kv_1948 kv_1692 (by decide +kernel) rfl (by decide) (by decide) (by decide) (Nat.le_of_ble_eq_true rfl) (c_appI5 h h2 h3) (fun k z h9 => by cases h9.1) ?_
  rintro o1 z1 ⟨rfl, f1, h1⟩
  show ev_E g m_J4_append_bf812 (5) (0) 5 [some (ev_o 12 a), some (ev_i (Int32.ofNat x))] [ev_o 12 a] (z1) _
  refine ev_pop dJ4_append_bf812_5 rfl ?_
  refine ev_aload_n (ev_o 12 a) dJ4_append_bf812_6 rfl rfl ?_
  exact ev_areturn (.object "java/lang/StringBuilder") dJ4_append_bf812_7 rfl rfl (Or.inl ⟨_, rfl⟩) ⟨rfl, f1, h1⟩
