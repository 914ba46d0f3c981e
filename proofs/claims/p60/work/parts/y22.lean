/-! ===== a builder takes letters (printed by gen_y22.py) ===== -/
def sb_is (S : ev_S) (a : Nat) (t : List Nat) : Prop := ∃ m v, sb_a S a t m v
theorem sb_put {g : ev_G} {S z1 z : ev_S} {a m v : Nat} {t s : List Nat} (f1 : sb_fr g S z1) (h1 : sb_a z1 a t m v) (hlen : t.length + s.length ≤ m) (e2 : z.2 = z1.2) (ea : ∀ c, c ≠ a → c ≠ v → z.1 c = z1.1 c) (e1 : z.1 a 1 = z1.1 a 1) (e3 : z.1 a 3 = Int32.ofNat (t.length + s.length)) (hfi : jb_fi (z.1 v)) (hp : ∀ j, j < t.length → z.1 v j = z1.1 v j) (hs : ∀ j, j < s.length → z.1 v (t.length + j) = Int32.ofNat (s.getD j 0)) : sb_fr g S z ∧ sb_is z a (t ++ s) := by
  obtain ⟨h0, hv, hb, hc, hn, hl, hm, hf, ht⟩ := h1
  refine ⟨⟨by rw [e2]; exact f1.1, by rw [e2]; exact f1.2.1, fun c k hc h12 h23 => ?_⟩, m, v, by rw [e2]; exact h0, by rw [e2]; exact hv, by rw [e2]; exact hb, by rw [e1]; exact hc, by rw [e3, List.length_append], by rw [List.length_append]; exact hlen, hm, hfi, fun j hj => ?_⟩
  · have hup := ev_at_up f1.1 hc
    have ha : c ≠ a := by
      rintro rfl
      have e := jb_uniq f1.2.1 hup (jb_at4 h0)
      subst e
      exact h12 rfl
    have hv' : c ≠ v := by
      rintro rfl
      have e := jb_uniq f1.2.1 hup (jb_atB hb)
      subst e
      exact h23 rfl
    rw [ea c ha hv', e2]
    exact f1.2.2 c k hc h12 h23
  · rw [jb_app_get]
    by_cases h : j < t.length
    · rw [if_pos h, hp j h]
      exact ht j h
    · rw [if_neg h]
      rw [List.length_append] at hj
      have := hs (j - t.length) (by omega)
      rw [show t.length + (j - t.length) = j by omega] at this
      exact this
theorem sb_ne {g : ev_G} {S : ev_S} {a m v : Nat} {t : List Nat} (hw : ev_lw g S.2.1) (h : sb_a S a t m v) : a ≠ v := by
  rintro rfl
  have e := jb_uniq hw (jb_at4 h.1) (jb_atB h.2.2.1)
  cases e
set_option maxHeartbeats 4000000 in
set_option maxRecDepth 100000 in
theorem c_can {g : ev_G} {S : ev_S} {c : Nat} (hc : c < 128) : ev_Fn g m_J1_canEncode_fc78d 1 [ev_i (Int32.ofNat c)] S (some (ev_i 1)) S := by
  intro Q hQ
  refine ev_enter (by decide) rfl rfl (Nat.le_of_ble_eq_true rfl) ?_
  show ev_E g m_J1_canEncode_fc78d (1) (0) 0 [some (ev_i (Int32.ofNat c))] [] (S) Q
  refine ev_iload_n ((Int32.ofNat c)) dJ1_canEncode_fc78d_0 rfl ?_
  refine ev_sipush (255) dJ1_canEncode_fc78d_1 (by decide) ?_
  refine ev_icmp_gt 11 dJ1_canEncode_fc78d_4 (by decide) (fun h9 => absurd h9 (show ¬ nI 255 < nI c from nI_nlt (by omega) (by omega))) (fun _ => ?_)
  refine ev_iconst (1) dJ1_canEncode_fc78d_7 rfl ?_
  refine ev_goto 12 dJ1_canEncode_fc78d_8 (by decide) ?_
  exact ev_ireturn .boolean dJ1_canEncode_fc78d_12 rfl rfl hQ
set_option maxHeartbeats 4000000 in
set_option maxRecDepth 100000 in
theorem c_appC5 {g : ev_G} {S : ev_S} {a c : Nat} {t : List Nat} (h : sb_is S a t) (h2 : t.length + 1 ≤ 300) (h3 : c < 128) : ev_Cv g m_J5_append_3fe6f 4 101 [ev_o 12 a, ev_i (Int32.ofNat c)] S (fun o z => o = .inl (some (ev_o 12 a)) ∧ sb_fr g S z ∧ sb_is z a (t ++ [c])) := by
  obtain ⟨m, v, h⟩ := h
  have hn := h.2.2.2.2.1
  refine ev_enter (by decide) rfl rfl (Nat.le_of_ble_eq_true rfl) ?_
  show ev_E g m_J5_append_3fe6f (4) (101) 0 [some (ev_o 12 a), some (ev_i (Int32.ofNat c))] [] (S) _
  refine ev_aload_n (ev_o 12 a) dJ5_append_3fe6f_0 rfl rfl ?_
  refine ev_aload_n (ev_o 12 a) dJ5_append_3fe6f_1 rfl rfl ?_
  refine gf_12_3 dJ5_append_3fe6f_2 kw_1783 ?_
  refine ev_ke (v' := Int32.ofNat t.length) (hn) ?_
  refine ev_iconst (1) dJ5_append_3fe6f_5 rfl ?_
  refine ev_iadd dJ5_append_3fe6f_6 ?_
  refine ev_ke (v' := Int32.ofNat (t.length + 1)) ((nI_1 t.length : nI t.length + 1 = nI (t.length + 1))) ?_
  refine ev_callU m_J5_ensureCapacityInternal_d00df yJ5_ensureCapacityInternal_d00df RJ5 3 101 100 12 (n := 1) (a := a) (K := []) [ev_i (Int32.ofNat (t.length + 1))] dJ5_append_3fe6f_7 rfl rfl (by decide) kw_1698 kw_1700 kw_36 kw_1701 kv_1943 kw_1700 kw_1701 (Or.inr ⟨rfl, ⟨4, kw_1661⟩, kv_1699, kv_1943⟩) ⟨by decide, by decide, by decide +kernel⟩ rfl (by decide) (by decide) (by decide) (Nat.le_of_ble_eq_true rfl) (c_ens h h2) (fun k z h9 => by cases h9.1) ?_
  rintro o1 z1 ⟨rfl, f1, m', v', hm', h1⟩
  have h1' := h1
  obtain ⟨h0, hv, hb, hc, hn, hl, hm, hf, ht⟩ := h1'
  show ev_E g m_J5_append_3fe6f (4) (0) 10 [some (ev_o 12 a), some (ev_i (Int32.ofNat c))] [] (z1) _
  refine ev_aload_n (ev_o 12 a) dJ5_append_3fe6f_10 rfl rfl ?_
  refine ev_callU m_J5_isLatin1_aae02 yJ5_isLatin1_aae02 RJ5 1 0 83 12 (n := 0) (a := a) (K := []) [] dJ5_append_3fe6f_11 rfl rfl (by decide) kw_1726 kw_1727 kw_36 kw_1730 kv_1728 kw_1727 kw_1730 (Or.inl kw_1729) ⟨by decide, by decide, by decide +kernel⟩ rfl (by decide) (by decide) (by decide) (Nat.le_of_ble_eq_true rfl) (c_lat hc).cv (fun k z h9 => by cases h9.1) ?_
  rintro o9 z9 ⟨rfl, ez9⟩
  rw [ez9]
  clear ez9
  show ev_E g m_J5_append_3fe6f (4) (0) 14 [some (ev_o 12 a), some (ev_i (Int32.ofNat c))] [ev_i 1] (z1) _
  refine ev_if_eq 45 dJ5_append_3fe6f_14 (by decide) (fun h9 => absurd h9 (by decide)) (fun _ => ?_)
  refine ev_iload_n ((Int32.ofNat c)) dJ5_append_3fe6f_17 rfl ?_
  refine ev_fS ms_J1_canEncode_fc78d 1 [ev_i (Int32.ofNat c)] [] dJ5_append_3fe6f_18 kw_1824 rfl (by decide) (Nat.le_of_ble_eq_true rfl) (c_can h3) ?_ rfl
  refine ev_if_eq 45 dJ5_append_3fe6f_21 (by decide) (fun h9 => absurd h9 (by decide)) (fun _ => ?_)
  refine ev_aload_n (ev_o 12 a) dJ5_append_3fe6f_24 rfl rfl ?_
  refine gf_12_0 dJ5_append_3fe6f_25 kw_1780 hv hb ?_
  refine ev_aload_n (ev_o 12 a) dJ5_append_3fe6f_28 rfl rfl ?_
  refine ev_dup dJ5_append_3fe6f_29 rfl ?_
  refine gf_12_3 dJ5_append_3fe6f_30 kw_1783 ?_
  refine ev_ke (v' := Int32.ofNat t.length) (hn) ?_
  refine ev_dupx1 dJ5_append_3fe6f_33 rfl rfl ?_
  refine ev_iconst (1) dJ5_append_3fe6f_34 rfl ?_
  refine ev_iadd dJ5_append_3fe6f_35 ?_
  refine ev_ke (v' := Int32.ofNat (t.length + 1)) ((nI_1 t.length : nI t.length + 1 = nI (t.length + 1))) ?_
  refine pf_12_3 dJ5_append_3fe6f_36 kw_1783 ?_
  refine ev_iload_n ((Int32.ofNat c)) dJ5_append_3fe6f_39 rfl ?_
  refine ev_i2b dJ5_append_3fe6f_40 (jb_nar c h3).2 ?_
  refine ev_basB dJ5_append_3fe6f_41 (show vp_in (nI t.length) m' from vp_in_nI (by omega) (by omega)) (jb_nar c h3).1 ?_
  show ev_E g m_J5_append_3fe6f (4) (0) 42 [some (ev_o 12 a), some (ev_i (Int32.ofNat c))] [] (ev_up (ev_up z1 a 3 (Int32.ofNat (t.length + 1))) v' (Int32.ofNat t.length).toNatClampNeg (Int32.ofNat c)) _
  refine ev_goto 75 dJ5_append_3fe6f_42 (by decide) ?_
  refine ev_aload_n (ev_o 12 a) dJ5_append_3fe6f_75 rfl rfl ?_
  refine ev_areturn (.object "java/lang/AbstractStringBuilder") dJ5_append_3fe6f_76 rfl rfl (Or.inl ⟨_, rfl⟩) ⟨rfl, ?_⟩
  rw [show (Int32.ofNat t.length).toNatClampNeg = t.length from nI_clamp (by omega)]
  have hav := sb_ne f1.2.1 h1
  have ez : ∀ c', (ev_up (ev_up z1 a 3 (Int32.ofNat (t.length + 1))) v' t.length (Int32.ofNat c)).1 c' = va_up (ev_up z1 a 3 (Int32.ofNat (t.length + 1))).1 v' (upd ((ev_up z1 a 3 (Int32.ofNat (t.length + 1))).1 v') t.length (Int32.ofNat c)) c' := fun _ => rfl
  have ez1 : ∀ c', (ev_up z1 a 3 (Int32.ofNat (t.length + 1))).1 c' = va_up z1.1 a (upd (z1.1 a) 3 (Int32.ofNat (t.length + 1))) c' := fun _ => rfl
  have eva : (ev_up z1 a 3 (Int32.ofNat (t.length + 1))).1 v' = z1.1 v' := by rw [ez1, va_up_ne _ _ (Ne.symm hav)]
  refine sb_put (s := [c]) f1 h1 hm' rfl ?_ ?_ ?_ ?_ ?_ ?_
  · intro c' h8 h9
    rw [ez, va_up_ne _ _ h9, ez1, va_up_ne _ _ h8]
  · rw [ez, va_up_ne _ _ hav, ez1, va_up_self, pk_un (by decide)]
  · rw [ez, va_up_ne _ _ hav, ez1, va_up_self, pk_us]
    rfl
  · rw [ez, va_up_self, eva]
    exact jb_fiU hf h3
  · intro j hj
    rw [ez, va_up_self, eva, pk_un (by omega)]
  · intro j hj
    have hj : j < 1 := hj
    obtain rfl : j = 0 := by omega
    rw [ez, va_up_self]
    exact pk_us
set_option maxHeartbeats 4000000 in
set_option maxRecDepth 100000 in
theorem c_appC {g : ev_G} {S : ev_S} {a c : Nat} {t : List Nat} (h : sb_is S a t) (h2 : t.length + 1 ≤ 300) (h3 : c < 128) : ev_Cv g m_J4_append_cf468 5 101 [ev_o 12 a, ev_i (Int32.ofNat c)] S (fun o z => o = .inl (some (ev_o 12 a)) ∧ sb_fr g S z ∧ sb_is z a (t ++ [c])) := by
  refine ev_enter (by decide) rfl rfl (Nat.le_of_ble_eq_true rfl) ?_
  show ev_E g m_J4_append_cf468 (5) (101) 0 [some (ev_o 12 a), some (ev_i (Int32.ofNat c))] [] (S) _
  refine ev_aload_n (ev_o 12 a) dJ4_append_cf468_0 rfl rfl ?_
  refine ev_iload_n ((Int32.ofNat c)) dJ4_append_cf468_1 rfl ?_
  refine ev_callSU m_J5_append_3fe6f 4 101 50 12 (n := 1) (a := a) (K := []) [ev_i (Int32.ofNat c)] dJ4_append_cf468_2 rfl rfl (by decide) (by decide) kw_1821 kw_1822 kw_36 kw_1823 kv_1949 kv_1692 (by decide +kernel) rfl (by decide) (by decide) (by decide) (Nat.le_of_ble_eq_true rfl) (c_appC5 h h2 h3) (fun k z h9 => by cases h9.1) ?_
  rintro o1 z1 ⟨rfl, f1, h1⟩
  show ev_E g m_J4_append_cf468 (5) (0) 5 [some (ev_o 12 a), some (ev_i (Int32.ofNat c))] [ev_o 12 a] (z1) _
  refine ev_pop dJ4_append_cf468_5 rfl ?_
  refine ev_aload_n (ev_o 12 a) dJ4_append_cf468_6 rfl rfl ?_
  exact ev_areturn (.object "java/lang/StringBuilder") dJ4_append_cf468_7 rfl rfl (Or.inl ⟨_, rfl⟩) ⟨rfl, f1, h1⟩
