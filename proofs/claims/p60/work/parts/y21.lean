/-! ===== AbstractStringBuilder: its room, a letter more (printed by gen_y21.py) ===== -/
set_option maxHeartbeats 4000000 in
set_option maxRecDepth 100000 in
theorem c_lat {g : ev_G} {S : ev_S} {a : Nat} (hc : S.1 a 1 = 0) : ev_Fn g m_J5_isLatin1_aae02 1 [ev_o 12 a] S (some (ev_i 1)) S := by
  intro Q hQ
  refine ev_enter (by decide) rfl rfl (Nat.le_of_ble_eq_true rfl) ?_
  show ev_E g m_J5_isLatin1_aae02 (1) (0) 0 [some (ev_o 12 a)] [] (S) Q
  refine ev_compact dJ5_isLatin1_aae02_0 kw_1731 ?_
  refine ev_if_eq 17 dJ5_isLatin1_aae02_3 (by decide) (fun h9 => absurd h9 (by decide)) (fun _ => ?_)
  refine ev_aload_n (ev_o 12 a) dJ5_isLatin1_aae02_6 rfl rfl ?_
  refine gf_12_1 dJ5_isLatin1_aae02_7 kw_1781 ?_
  refine ev_ke (v' := 0) (hc) ?_
  refine ev_if_ne 17 dJ5_isLatin1_aae02_10 (by decide) (fun h9 => absurd (by decide) h9) (fun _ => ?_)
  refine ev_iconst (1) dJ5_isLatin1_aae02_13 rfl ?_
  refine ev_goto 18 dJ5_isLatin1_aae02_14 (by decide) ?_
  exact ev_ireturn .boolean dJ5_isLatin1_aae02_18 rfl rfl hQ
theorem jb_max {m p q : Nat} (hp : p ≤ 1000) (hq : q ≤ 1000) : Int32.ofNat m + ev_max (Int32.ofNat p) (Int32.ofNat q) = Int32.ofNat (m + (if p < q then q else p)) := by
  unfold ev_max
  by_cases h : p < q
  · rw [if_pos h, if_pos (show Int32.ofNat p < Int32.ofNat q from nI_lt h (by omega))]
    exact nI_add m q
  · rw [if_neg h, if_neg (show ¬ Int32.ofNat p < Int32.ofNat q from nI_nlt (by omega) (by omega))]
    exact nI_add m p
set_option maxHeartbeats 4000000 in
set_option maxRecDepth 100000 in
theorem c_newLength {g : ev_G} {S : ev_S} {m p q : Nat} (hm : m ≤ 1000) (hp : p ≤ 1000) (hq : q ≤ 1000) (hq0 : 0 < q) : ev_Fn g m_J8_newLength_cabcc 1 [ev_i (Int32.ofNat m), ev_i (Int32.ofNat p), ev_i (Int32.ofNat q)] S (some (ev_i (Int32.ofNat (m + (if p < q then q else p))))) S := by
  intro Q hQ
  refine ev_enter (by decide) rfl rfl (Nat.le_of_ble_eq_true rfl) ?_
  show ev_E g m_J8_newLength_cabcc (1) (0) 0 [some (ev_i (Int32.ofNat m)), some (ev_i (Int32.ofNat p)), some (ev_i (Int32.ofNat q)), none] [] (S) Q
  refine ev_iload_n ((Int32.ofNat m)) dJ8_newLength_cabcc_0 rfl ?_
  refine ev_iload_n ((Int32.ofNat p)) dJ8_newLength_cabcc_1 rfl ?_
  refine ev_iload_n ((Int32.ofNat q)) dJ8_newLength_cabcc_2 rfl ?_
  refine ev_mathMax dJ8_newLength_cabcc_3 kw_1709 kw_1389 kw_31 kw_1390 (Nat.le_of_ble_eq_true rfl) ?_
  refine ev_iadd dJ8_newLength_cabcc_6 ?_
  refine ev_ke (v' := Int32.ofNat (m + (if p < q then q else p))) (jb_max hp hq) ?_
  refine ev_istore_n dJ8_newLength_cabcc_7 (Nat.le_of_ble_eq_true rfl) (ev_hw rfl) ?_
  show ev_E g m_J8_newLength_cabcc (1) (0) 8 [some (ev_i (Int32.ofNat m)), some (ev_i (Int32.ofNat p)), some (ev_i (Int32.ofNat q)), some (ev_i (Int32.ofNat (m + (if p < q then q else p))))] [] (S) Q
  refine ev_iconst (0) dJ8_newLength_cabcc_8 rfl ?_
  refine ev_iload_n ((Int32.ofNat (m + (if p < q then q else p)))) dJ8_newLength_cabcc_9 rfl ?_
  refine ev_icmp_ge 21 dJ8_newLength_cabcc_10 (by decide) (fun h9 => absurd h9 (show ¬ nI (m + (if p < q then q else p)) ≤ 0 from nI_nle (by split <;> omega) (by split <;> omega))) (fun _ => ?_)
  refine ev_iload_n ((Int32.ofNat (m + (if p < q then q else p)))) dJ8_newLength_cabcc_13 rfl ?_
  refine ev_ldci 2147483639 dJ8_newLength_cabcc_14 kw_1710 ?_
  refine ev_icmp_gt 21 dJ8_newLength_cabcc_16 (by decide) (fun h9 => absurd h9 (show ¬ nI 2147483639 < nI (m + (if p < q then q else p)) from nI_nlt (by split <;> omega) (by decide))) (fun _ => ?_)
  refine ev_iload_n ((Int32.ofNat (m + (if p < q then q else p)))) dJ8_newLength_cabcc_19 rfl ?_
  exact ev_ireturn .int dJ8_newLength_cabcc_20 rfl rfl hQ
set_option maxHeartbeats 4000000 in
set_option maxRecDepth 100000 in
theorem c_newCap {g : ev_G} {S : ev_S} {a m v n : Nat} {t : List Nat} (h : sb_a S a t m v) (h1 : m < n) (h2 : n ≤ 300) : ev_Fn g m_J5_newCapacity_0f7a4 2 [ev_o 12 a, ev_i (Int32.ofNat n)] S (some (ev_i (Int32.ofNat (jb_cap n m)))) S := by
  intro Q hQ
  obtain ⟨h0, hv, hb, hc, hn, hl, hm, hf, ht⟩ := h
  have hcap := jb_cap_ok (m := m) h2 (by omega)
  refine ev_enter (by decide) rfl rfl (Nat.le_of_ble_eq_true rfl) ?_
  show ev_E g m_J5_newCapacity_0f7a4 (2) (0) 0 [some (ev_o 12 a), some (ev_i (Int32.ofNat n)), none, none, none, none] [] (S) Q
  refine ev_aload_n (ev_o 12 a) dJ5_newCapacity_0f7a4_0 rfl rfl ?_
  refine gf_12_0 dJ5_newCapacity_0f7a4_1 kw_1780 hv hb ?_
  refine ev_alenB dJ5_newCapacity_0f7a4_4 ?_
  refine ev_istore_n dJ5_newCapacity_0f7a4_5 (Nat.le_of_ble_eq_true rfl) (ev_hw rfl) ?_
  show ev_E g m_J5_newCapacity_0f7a4 (2) (0) 6 [some (ev_o 12 a), some (ev_i (Int32.ofNat n)), some (ev_i (Int32.ofNat m)), none, none, none] [] (S) Q
  refine ev_iload_n ((Int32.ofNat n)) dJ5_newCapacity_0f7a4_6 rfl ?_
  refine ev_aload_n (ev_o 12 a) dJ5_newCapacity_0f7a4_7 rfl rfl ?_
  refine gf_12_1 dJ5_newCapacity_0f7a4_8 kw_1781 ?_
  refine ev_ke (v' := 0) (hc) ?_
  refine ev_ishl dJ5_newCapacity_0f7a4_11 ?_
  refine ev_ke (v' := Int32.ofNat n) (sb_shl0 _) ?_
  refine ev_istore_n dJ5_newCapacity_0f7a4_12 (Nat.le_of_ble_eq_true rfl) (ev_hw rfl) ?_
  show ev_E g m_J5_newCapacity_0f7a4 (2) (0) 13 [some (ev_o 12 a), some (ev_i (Int32.ofNat n)), some (ev_i (Int32.ofNat m)), some (ev_i (Int32.ofNat n)), none, none] [] (S) Q
  refine ev_iload_n ((Int32.ofNat n)) dJ5_newCapacity_0f7a4_13 rfl ?_
  refine ev_iload_n ((Int32.ofNat m)) dJ5_newCapacity_0f7a4_14 rfl ?_
  refine ev_isub dJ5_newCapacity_0f7a4_15 ?_
  refine ev_ke (v' := Int32.ofNat (n - m)) ((pk_sub (by omega) : nI n - nI m = nI (n - m))) ?_
  refine ev_istore dJ5_newCapacity_0f7a4_16 (Nat.le_of_ble_eq_true rfl) (ev_hw rfl) ?_
  show ev_E g m_J5_newCapacity_0f7a4 (2) (0) 18 [some (ev_o 12 a), some (ev_i (Int32.ofNat n)), some (ev_i (Int32.ofNat m)), some (ev_i (Int32.ofNat n)), some (ev_i (Int32.ofNat (n - m))), none] [] (S) Q
  refine ev_iload_n ((Int32.ofNat m)) dJ5_newCapacity_0f7a4_18 rfl ?_
  refine ev_iload ((Int32.ofNat (n - m))) dJ5_newCapacity_0f7a4_19 rfl ?_
  refine ev_iload_n ((Int32.ofNat m)) dJ5_newCapacity_0f7a4_21 rfl ?_
  refine ev_iconst (2) dJ5_newCapacity_0f7a4_22 rfl ?_
  refine ev_aload_n (ev_o 12 a) dJ5_newCapacity_0f7a4_23 rfl rfl ?_
  refine gf_12_1 dJ5_newCapacity_0f7a4_24 kw_1781 ?_
  refine ev_ke (v' := 0) (hc) ?_
  refine ev_ishl dJ5_newCapacity_0f7a4_27 ?_
  refine ev_ke (v' := 2) (sb_shl0 _) ?_
  refine ev_iadd dJ5_newCapacity_0f7a4_28 ?_
  refine ev_ke (v' := Int32.ofNat (m + 2)) ((nI_add m 2 : nI m + nI 2 = nI (m + 2))) ?_
  refine ev_fS ms_J8_newLength_cabcc 1 [ev_i (Int32.ofNat m), ev_i (Int32.ofNat (n - m)), ev_i (Int32.ofNat (m + 2))] [] dJ5_newCapacity_0f7a4_29 kw_1706 rfl (by decide) (Nat.le_of_ble_eq_true rfl) (c_newLength (by omega) (by omega) (by omega) (by omega)) ?_ rfl
  refine ev_ke (v' := Int32.ofNat (jb_cap n m)) (by unfold jb_cap; rw [if_neg (show ¬ n ≤ m by omega)]) ?_
  refine ev_istore dJ5_newCapacity_0f7a4_32 (Nat.le_of_ble_eq_true rfl) (ev_hw rfl) ?_
  show ev_E g m_J5_newCapacity_0f7a4 (2) (0) 34 [some (ev_o 12 a), some (ev_i (Int32.ofNat n)), some (ev_i (Int32.ofNat m)), some (ev_i (Int32.ofNat n)), some (ev_i (Int32.ofNat (n - m))), some (ev_i (Int32.ofNat (jb_cap n m)))] [] (S) Q
  refine ev_iload ((Int32.ofNat (jb_cap n m))) dJ5_newCapacity_0f7a4_34 rfl ?_
  refine ev_ldci 2147483647 dJ5_newCapacity_0f7a4_36 kw_1672 ?_
  refine ev_icmp_ne 51 dJ5_newCapacity_0f7a4_38 (by decide) (fun _ => ?_) (fun h9 => absurd h9 (fun h9 => by have h8 := (nI_eq (by omega) (by decide)).mp (show nI (jb_cap n m) = nI 2147483647 from h9); omega))
  refine ev_iload ((Int32.ofNat (jb_cap n m))) dJ5_newCapacity_0f7a4_51 rfl ?_
  refine ev_aload_n (ev_o 12 a) dJ5_newCapacity_0f7a4_53 rfl rfl ?_
  refine gf_12_1 dJ5_newCapacity_0f7a4_54 kw_1781 ?_
  refine ev_ke (v' := 0) (hc) ?_
  refine ev_ishr dJ5_newCapacity_0f7a4_57 ?_
  refine ev_ke (v' := Int32.ofNat (jb_cap n m)) (sb_shr0 _) ?_
  exact ev_ireturn .int dJ5_newCapacity_0f7a4_58 rfl rfl hQ
set_option maxHeartbeats 4000000 in
set_option maxRecDepth 100000 in
theorem c_copyOf {g : ev_G} {S : ev_S} {m v n : Nat} (hv : ev_at g S.2.1 (23, m) v) (hf : jb_fi (S.1 v)) (h1 : m < n) (h2 : n ≤ 606) : ev_Cv g m_J7_copyOf_9075b 1 101 [ev_o (1000 + m) v, ev_i (Int32.ofNat n)] S (fun o z => ∃ q, o = .inl (some (ev_o (1000 + n) q)) ∧ ev_lw g ((10 + n, q) :: S.2.1) ∧ z = ev_ur (ev_nt S (10 + n) q (fun _ _ => 0)) q (va_cpy (S.1 v) (fun _ => 0) 0 0 m)) := by
  refine ev_enter (by decide) rfl rfl (Nat.le_of_ble_eq_true rfl) ?_
  show ev_E g m_J7_copyOf_9075b (1) (101) 0 [some (ev_o (1000 + m) v), some (ev_i (Int32.ofNat n)), none] [] (S) _
  refine ev_iload_n ((Int32.ofNat n)) dJ7_copyOf_9075b_0 rfl ?_
  refine ev_aload_n (ev_o (1000 + m) v) dJ7_copyOf_9075b_1 rfl rfl ?_
  refine ev_alenB dJ7_copyOf_9075b_2 ?_
  refine ev_icmp_ne 14 dJ7_copyOf_9075b_3 (by decide) (fun _ => ?_) (fun h9 => absurd h9 (fun h9 => by have h8 := (nI_eq (by omega) (by omega)).mp (show nI n = nI m from h9); omega))
  refine ev_iload_n ((Int32.ofNat n)) dJ7_copyOf_9075b_14 rfl ?_
  refine ev_newB n 101 dJ7_copyOf_9075b_15 kw_635 rfl (by omega) (Nat.le_refl _) (by omega) (by omega) (fun q hq => ?_)
  show ev_E g m_J7_copyOf_9075b (1) (0) 17 [some (ev_o (1000 + m) v), some (ev_i (Int32.ofNat n)), none] [ev_o (1000 + n) q] (ev_nt S (10 + n) q (fun _ _ => 0)) _
  refine ev_astore_n dJ7_copyOf_9075b_17 rfl (Nat.le_of_ble_eq_true rfl) (ev_hw rfl) ?_
  show ev_E g m_J7_copyOf_9075b (1) (0) 18 [some (ev_o (1000 + m) v), some (ev_i (Int32.ofNat n)), some (ev_o (1000 + n) q)] [] (ev_nt S (10 + n) q (fun _ _ => 0)) _
  refine ev_aload_n (ev_o (1000 + m) v) dJ7_copyOf_9075b_18 rfl rfl ?_
  refine ev_iconst (0) dJ7_copyOf_9075b_19 rfl ?_
  refine ev_aload_n (ev_o (1000 + n) q) dJ7_copyOf_9075b_20 rfl rfl ?_
  refine ev_iconst (0) dJ7_copyOf_9075b_21 rfl ?_
  refine ev_aload_n (ev_o (1000 + m) v) dJ7_copyOf_9075b_22 rfl rfl ?_
  refine ev_alenB dJ7_copyOf_9075b_23 ?_
  refine ev_iload_n ((Int32.ofNat n)) dJ7_copyOf_9075b_24 rfl ?_
  refine ev_mathMin dJ7_copyOf_9075b_25 kw_1724 kw_424 kw_31 kw_425 (Nat.le_of_ble_eq_true rfl) ?_
  refine ev_ke (v' := Int32.ofNat m) (by unfold ev_min; exact if_neg (show ¬ nI n < nI m from nI_nlt (by omega) (by omega))) ?_
  have e0 := jb_nt1 (R := fun _ _ => 0) hq hv
  have e1 := jb_nt2 (S := S) (t := 10 + n) (q := q) (R := fun _ _ => 0) (by rw [jb_tkb]; exact Nat.zero_lt_one)
  refine ev_cpyB dJ7_copyOf_9075b_28 kw_1725 kw_582 kw_581 kw_33 (by decide) (by decide) (show ¬ nI m < 0 from nI_pos (by omega)) (by rw [show (Int32.ofNat m).toNatClampNeg = m from nI_clamp (by omega), sb_cl0]; omega) (by rw [show (Int32.ofNat m).toNatClampNeg = m from nI_clamp (by omega), sb_cl0]; omega) (fun i _ => by obtain ⟨c, h8, h9⟩ := hf ((0 : Int32).toNatClampNeg + i); rw [e0.1, h9]; exact jb_fit c h8) (Nat.le_of_ble_eq_true rfl) ?_
  rw [show (Int32.ofNat m).toNatClampNeg = m from nI_clamp (by omega), sb_cl0, e0.1, e1.1]
  show ev_E g m_J7_copyOf_9075b (1) (0) 31 [some (ev_o (1000 + m) v), some (ev_i (Int32.ofNat n)), some (ev_o (1000 + n) q)] [] (ev_ur (ev_nt S (10 + n) q (fun _ _ => 0)) q (va_cpy (S.1 v) (fun _ => 0) 0 0 m)) _
  refine ev_aload_n (ev_o (1000 + n) q) dJ7_copyOf_9075b_31 rfl rfl ?_
  exact ev_areturn (.array .byte) dJ7_copyOf_9075b_32 rfl rfl (Or.inr ⟨_, rfl⟩) ⟨q, rfl, hq, rfl⟩
theorem ev_Fn.cv {g : ev_G} {μ : ev_M} {d : Nat} {args : List ev_V} {S S' : ev_S} {ov : Option ev_V} (h : ev_Fn g μ d args S ov S') : ev_Cv g μ d 0 args S (fun o z => o = .inl ov ∧ z = S') := h _ ⟨rfl, rfl⟩
/-- the builder has new bytes -/
theorem sb_grown {g : ev_G} {S z : ev_S} {a m v n q : Nat} {t : List Nat} (hw : ev_lw g S.2.1) (h : sb_a S a t m v) (hq : ev_lw g ((10 + jb_cap n m, q) :: S.2.1)) (h1 : m < n) (h2 : n ≤ 300) (e : z = ev_ur (ev_nt S (10 + jb_cap n m) q (fun _ _ => 0)) q (va_cpy (S.1 v) (fun _ => 0) 0 0 m)) : (Sum.inl none : ev_O) = .inl none ∧ sb_fr g S (ev_uo z a 0 q) ∧ ∃ m' v', n ≤ m' ∧ sb_a (ev_uo z a 0 q) a t m' v' := by
  obtain ⟨h0, hv, hb, hc, hn, hl, hm, hf, ht⟩ := h
  have hcap := jb_cap_ok (m := m) h2 hm
  have hat := jb_at4 (g := g) h0
  have hao := jb_out hq hat
  rw [jb_tkb] at hao
  have hao : ¬ (q ≤ a ∧ a < q + 1) := hao
  have haq : a ≠ q := by omega
  have hvo := jb_out hq (jb_atB (g := g) hb)
  rw [jb_tkb] at hvo
  have hvo : ¬ (q ≤ v ∧ v < q + 1) := hvo
  have e0 := jb_nt1 (R := fun _ _ => 0) hq hat
  have e2 := jb_nt2 (S := S) (t := 10 + jb_cap n m) (q := q) (R := fun _ _ => 0) (by rw [jb_tkb]; exact Nat.zero_lt_one)
  have eΛ : z.2.1 = (10 + jb_cap n m, q) :: S.2.1 := by rw [e]; rfl
  have z1 : ∀ c, z.1 c = va_up (ev_nt S (10 + jb_cap n m) q (fun _ _ => 0)).1 q (va_cpy (S.1 v) (fun _ => 0) 0 0 m) c := fun c => by rw [e]; rfl
  have za : z.1 a = S.1 a := by rw [z1, va_up_ne _ _ haq]; exact e0.1
  have zq : z.1 q = va_cpy (S.1 v) (fun _ => 0) 0 0 m := by rw [z1, va_up_self]
  refine ⟨rfl, ?_, jb_cap n m, q, hcap.1, ?_⟩
  · refine (sb_fr_nt hq (R := fun _ _ => 0)).trans ?_
    have f1 : sb_fr g (ev_nt S (10 + jb_cap n m) q (fun _ _ => 0)) z := by
      rw [e]
      exact sb_fr_at (a := q) (k0 := (23, jb_cap n m)) hq (jb_atB List.mem_cons_self) (Or.inr rfl) rfl (fun c hc => va_up_ne _ _ hc) (fun c _ => rfl)
    refine f1.trans ?_
    exact sb_fr_at (a := a) (k0 := (12, 0)) f1.2.1 (ev_at_up (by rw [eΛ]; exact List.suffix_cons _ _) hat) (Or.inl rfl) rfl (fun c _ => rfl) (fun c hc => va_up_ne _ _ hc)
  · refine ⟨by show (4, a) ∈ z.2.1; rw [eΛ]; exact List.mem_cons_of_mem _ h0, ?_, by show _ ∈ z.2.1; rw [eΛ]; exact List.mem_cons_self, by show z.1 a 1 = 0; rw [za]; exact hc, by show z.1 a 3 = _; rw [za]; exact hn, by omega, hcap.2.2, ?_, ?_⟩
    · show va_up z.2.2 a (va_up (z.2.2 a) 0 (some q)) a 0 = some q
      rw [va_up_self, va_up_self]
    · show jb_fi (z.1 q)
      rw [zq]
      exact jb_fiC (fun j _ => hf (0 + j)) jb_fi0
    · intro j hj
      show z.1 q j = _
      rw [zq, pk_cpy_in (Nat.zero_le _) (by omega), show 0 + (j - 0) = j by omega]
      exact ht j hj
set_option maxHeartbeats 4000000 in
set_option maxRecDepth 100000 in
theorem c_ens {g : ev_G} {S : ev_S} {a m v n : Nat} {t : List Nat} (h : sb_a S a t m v) (h2 : n ≤ 300) : ev_Cv g m_J5_ensureCapacityInternal_d00df 3 101 [ev_o 12 a, ev_i (Int32.ofNat n)] S (fun o z => o = .inl none ∧ sb_fr g S z ∧ ∃ m' v', n ≤ m' ∧ sb_a z a t m' v') := by
  have h' := h
  obtain ⟨h0, hv, hb, hc, hn, hl, hm, hf, ht⟩ := h'
  have e1 : (Int32.ofNat n - Int32.ofNat m).toInt = (n : Int) - m := pk_sub_toInt (by omega) (by omega)
  refine ev_enter (by decide) rfl rfl (Nat.le_of_ble_eq_true rfl) ?_
  refine ev_lwE (fun hw => ?_)
  show ev_E g m_J5_ensureCapacityInternal_d00df (3) (101) 0 [some (ev_o 12 a), some (ev_i (Int32.ofNat n)), none] [] (S) _
  refine ev_aload_n (ev_o 12 a) dJ5_ensureCapacityInternal_d00df_0 rfl rfl ?_
  refine gf_12_0 dJ5_ensureCapacityInternal_d00df_1 kw_1780 hv hb ?_
  refine ev_alenB dJ5_ensureCapacityInternal_d00df_4 ?_
  refine ev_aload_n (ev_o 12 a) dJ5_ensureCapacityInternal_d00df_5 rfl rfl ?_
  refine gf_12_1 dJ5_ensureCapacityInternal_d00df_6 kw_1781 ?_
  refine ev_ke (v' := 0) (hc) ?_
  refine ev_ishr dJ5_ensureCapacityInternal_d00df_9 ?_
  refine ev_ke (v' := Int32.ofNat m) (sb_shr0 _) ?_
  refine ev_istore_n dJ5_ensureCapacityInternal_d00df_10 (Nat.le_of_ble_eq_true rfl) (ev_hw rfl) ?_
  show ev_E g m_J5_ensureCapacityInternal_d00df (3) (101) 11 [some (ev_o 12 a), some (ev_i (Int32.ofNat n)), some (ev_i (Int32.ofNat m))] [] (S) _
  refine ev_iload_n ((Int32.ofNat n)) dJ5_ensureCapacityInternal_d00df_11 rfl ?_
  refine ev_iload_n ((Int32.ofNat m)) dJ5_ensureCapacityInternal_d00df_12 rfl ?_
  refine ev_isub dJ5_ensureCapacityInternal_d00df_13 ?_
  by_cases hle : n ≤ m
  · skip
    refine ev_if_le 38 dJ5_ensureCapacityInternal_d00df_14 (by decide) (fun _ => ?_) (fun h9 => absurd (by rw [Int32.le_iff_toInt_le, e1, Int32.toInt_zero]; omega) h9)
    exact ev_return dJ5_ensureCapacityInternal_d00df_38 rfl ⟨rfl, sb_fr_rfl hw, m, v, hle, h⟩
  refine ev_if_le 38 dJ5_ensureCapacityInternal_d00df_14 (by decide) (fun h9 => absurd h9 (fun h9 => by rw [Int32.le_iff_toInt_le, e1, Int32.toInt_zero] at h9; omega)) (fun _ => ?_)
  refine ev_aload_n (ev_o 12 a) dJ5_ensureCapacityInternal_d00df_17 rfl rfl ?_
  refine ev_aload_n (ev_o 12 a) dJ5_ensureCapacityInternal_d00df_18 rfl rfl ?_
  refine gf_12_0 dJ5_ensureCapacityInternal_d00df_19 kw_1780 hv hb ?_
  refine ev_aload_n (ev_o 12 a) dJ5_ensureCapacityInternal_d00df_22 rfl rfl ?_
  refine ev_iload_n ((Int32.ofNat n)) dJ5_ensureCapacityInternal_d00df_23 rfl ?_
  refine ev_callU m_J5_newCapacity_0f7a4 yJ5_newCapacity_0f7a4 RJ5 2 0 104 12 (n := 1) (a := a) (K := [ev_o (1000 + m) v, ev_o 12 a]) [ev_i (Int32.ofNat n)] dJ5_ensureCapacityInternal_d00df_24 rfl rfl (by decide) kw_1702 kw_1704 kw_36 kw_1705 kv_1944 kw_1704 kw_1705 (Or.inr ⟨rfl, ⟨4, kw_1661⟩, kv_1703, kv_1944⟩) ⟨by decide, by decide, by decide +kernel⟩ rfl (by decide) (by decide) (by decide) (Nat.le_of_ble_eq_true rfl) (c_newCap h (by omega) h2).cv (fun k z h9 => by cases h9.1) ?_
  rintro o1 z1 ⟨rfl, ez1⟩
  rw [ez1]
  show ev_E g m_J5_ensureCapacityInternal_d00df (3) (101) 27 [some (ev_o 12 a), some (ev_i (Int32.ofNat n)), some (ev_i (Int32.ofNat m))] [ev_i (Int32.ofNat (jb_cap n m)), ev_o (1000 + m) v, ev_o 12 a] (S) _
  refine ev_aload_n (ev_o 12 a) dJ5_ensureCapacityInternal_d00df_27 rfl rfl ?_
  refine gf_12_1 dJ5_ensureCapacityInternal_d00df_28 kw_1781 ?_
  refine ev_ke (v' := 0) (hc) ?_
  refine ev_ishl dJ5_ensureCapacityInternal_d00df_31 ?_
  refine ev_ke (v' := Int32.ofNat (jb_cap n m)) (sb_shl0 _) ?_
  refine ev_cS ms_J7_copyOf_9075b 1 101 [ev_o (1000 + m) v, ev_i (Int32.ofNat (jb_cap n m))] [ev_o 12 a] dJ5_ensureCapacityInternal_d00df_32 kw_1714 rfl (by decide) (by decide) (Nat.le_of_ble_eq_true rfl) (c_copyOf (n := jb_cap n m) (jb_atB hb) hf (by unfold jb_cap; rw [if_neg (show ¬ n ≤ m by omega)]; split <;> omega) (by unfold jb_cap; rw [if_neg (show ¬ n ≤ m by omega)]; split <;> omega)) ?_ rfl
  rintro o1 z1 ⟨q, rfl, hq, ez⟩
  show ev_E g m_J5_ensureCapacityInternal_d00df (3) (0) 35 [some (ev_o 12 a), some (ev_i (Int32.ofNat n)), some (ev_i (Int32.ofNat m))] [ev_o (1000 + jb_cap n m) q, ev_o 12 a] (z1) _
  refine pf_12_0 dJ5_ensureCapacityInternal_d00df_35 kw_1780 ?_
  exact ev_return dJ5_ensureCapacityInternal_d00df_38 rfl (sb_grown hw h hq (by omega) h2 ez)
