/-! ===== a builder takes a literal; a builder is made from a literal (printed by gen_y24.py) ===== -/
section Jd
variable {g : ev_G} {μ : ev_M} {d B pc : Nat} {L : List (Option ev_V)} {K : List ev_V} {S : ev_S} {Q : ev_O → ev_S → Prop}
theorem ev_ifnn {v : ev_V} {off : Int} (tgt : Nat) (h : decode (ev_by μ) pc = .ok (.ifnonnull off, 3)) (hr : ev_isr v = true) (ht : (pc : Int) + off = (tgt : Int)) (kk : ev_E g μ d B tgt L K S Q) : ev_E g μ d B pc L (v :: K) S Q := by
  intro l p e R s m args below meth c H locs cells slots mc ms Λ ls X hL hz hK
  obtain ⟨a, ha⟩ := ev_isr_ref (g := g) hr
  rw [List.map_cons, ha]
  exact lv_ifnonnull X.1.1 X.1.2.1 h ht (kk l p e R s m args below meth c H locs cells slots mc ms Λ ls X hL hz (fun v hv => hK v (List.mem_cons_of_mem _ hv)))
end Jd
/-- a literal's text is laid at place n of the bytes v -/
def jb_row (k n : Nat) (r : Nat → Int32) : Nat → Int32 := va_cpy (fun j => (ev_bt.getD k []).getD j 0) r 0 n (jb_lit k).length
theorem jb_row_ok {k n : Nat} {r : Nat → Int32} (h1 : 10 ≤ k) (h2 : k < 14) (hf : jb_fi r) : jb_fi (jb_row k n r) ∧ (∀ j, j < n → jb_row k n r j = r j) ∧ ∀ j, j < (jb_lit k).length → jb_row k n r (n + j) = Int32.ofNat ((jb_lit k).getD j 0) := by
  obtain ⟨e1, e2, e3⟩ := jb_lit_ok k h2 h1
  refine ⟨jb_fiC (fun j hj => ⟨_, (e3 j hj).2, by rw [Nat.zero_add]; exact (e3 j hj).1⟩) hf, fun j hj => pk_cpy_out (Or.inl hj), fun j hj => ?_⟩
  unfold jb_row
  rw [pk_cpy_in (by omega) (by omega), show 0 + (n + j - n) = j by omega]
  exact (e3 j hj).1
theorem jb_lit_le {k : Nat} (h1 : 10 ≤ k) (h2 : k < 14) : (jb_lit k).length ≤ 7 := (jb_lit_ok k h2 h1).2.1
theorem jb_len {k : Nat} (h1 : 10 ≤ k) (h2 : k < 14) : j_ishr (Int32.ofNat (ev_le.getD k 0)) 0 = Int32.ofNat (jb_lit k).length := by
  rw [(jb_lit_ok k h2 h1).1]
  exact sb_shr0 _
set_option maxHeartbeats 4000000 in
set_option maxRecDepth 100000 in
theorem c_infl {g : ev_G} {S : ev_S} {a k : Nat} (hc : S.1 a 1 = 0) : ev_Fn g m_J5_inflateIfNeededFor_a7421 2 [ev_o 12 a, ev_x 1 k] S none S := by
  intro Q hQ
  refine ev_enter (by decide) rfl rfl (Nat.le_of_ble_eq_true rfl) ?_
  show ev_E g m_J5_inflateIfNeededFor_a7421 (2) (0) 0 [some (ev_o 12 a), some (ev_x 1 k)] [] (S) Q
  refine ev_compact dJ5_inflateIfNeededFor_a7421_0 kw_1731 ?_
  refine ev_if_eq 21 dJ5_inflateIfNeededFor_a7421_3 (by decide) (fun h9 => absurd h9 (by decide)) (fun _ => ?_)
  refine ev_aload_n (ev_o 12 a) dJ5_inflateIfNeededFor_a7421_6 rfl rfl ?_
  refine gf_12_1 dJ5_inflateIfNeededFor_a7421_7 kw_1781 ?_
  refine ev_ke (v' := 0) (hc) ?_
  refine ev_aload_n (ev_x 1 k) dJ5_inflateIfNeededFor_a7421_10 rfl rfl ?_
  refine ev_fK mv_J0_coder_7d493 1 [] [ev_i 0] dJ5_inflateIfNeededFor_a7421_11 kw_1673 rfl (by decide) (Nat.le_of_ble_eq_true rfl) (sp_J0_coder_7d493 k) ?_ rfl
  refine ev_icmp_eq 21 dJ5_inflateIfNeededFor_a7421_14 (by decide) (fun _ => ?_) (fun h9 => absurd (rfl) h9)
  exact ev_return dJ5_inflateIfNeededFor_a7421_21 rfl hQ
set_option maxHeartbeats 4000000 in
set_option maxRecDepth 100000 in
theorem c_getB {g : ev_G} {S : ev_S} {k m v n : Nat} (h1 : 10 ≤ k) (h2 : k < 14) (h3 : n + (jb_lit k).length ≤ m) (h4 : m ≤ 700) : ev_Cv g m_J0_getBytes_840e7 2 0 [ev_x 1 k, ev_o (1000 + m) v, ev_i (Int32.ofNat n), ev_i 0] S (fun o z => o = .inl none ∧ z = ev_ur S v (jb_row k n (S.1 v))) := by
  obtain ⟨e1, e2, e3⟩ := jb_lit_ok k h2 h1
  have ew : (Int32.ofNat (jb_lit k).length).toNatClampNeg = (jb_lit k).length := nI_clamp (by omega)
  have en : (Int32.ofNat n).toNatClampNeg = n := nI_clamp (by omega)
  refine ev_enter (by decide) rfl rfl (Nat.le_of_ble_eq_true rfl) ?_
  show ev_E g m_J0_getBytes_840e7 (2) (0) 0 [some (ev_x 1 k), some (ev_o (1000 + m) v), some (ev_i (Int32.ofNat n)), some (ev_i 0)] [] (S) _
  refine ev_aload_n (ev_x 1 k) dJ0_getBytes_840e7_0 rfl rfl ?_
  refine ev_fK mv_J0_coder_7d493 1 [] [] dJ0_getBytes_840e7_1 kw_340 rfl (by decide) (Nat.le_of_ble_eq_true rfl) (sp_J0_coder_7d493 k) ?_ rfl
  refine ev_iload_n (0) dJ0_getBytes_840e7_4 rfl ?_
  refine ev_icmp_ne 28 dJ0_getBytes_840e7_5 (by decide) (fun h9 => absurd (rfl) h9) (fun _ => ?_)
  refine ev_aload_n (ev_x 1 k) dJ0_getBytes_840e7_8 rfl rfl ?_
  refine ev_sval dJ0_getBytes_840e7_9 kw_1880 ?_
  refine ev_iconst (0) dJ0_getBytes_840e7_12 rfl ?_
  refine ev_aload_n (ev_o (1000 + m) v) dJ0_getBytes_840e7_13 rfl rfl ?_
  refine ev_iload_n ((Int32.ofNat n)) dJ0_getBytes_840e7_14 rfl ?_
  refine ev_iload_n (0) dJ0_getBytes_840e7_15 rfl ?_
  refine ev_ishl dJ0_getBytes_840e7_16 ?_
  refine ev_ke (v' := Int32.ofNat n) (sb_shl0 _) ?_
  refine ev_aload_n (ev_x 1 k) dJ0_getBytes_840e7_17 rfl rfl ?_
  refine ev_sval dJ0_getBytes_840e7_18 kw_1880 ?_
  refine ev_sblen dJ0_getBytes_840e7_21 ?_
  refine ev_ke (v' := Int32.ofNat (jb_lit k).length) (by rw [e1]) ?_
  refine ev_cpyK dJ0_getBytes_840e7_22 kw_1778 kw_582 kw_581 kw_33 (by decide) (show ¬ nI n < 0 from nI_pos (by omega)) (show ¬ nI (jb_lit k).length < 0 from nI_pos (by omega)) (by rw [e1, ew, sb_cl0]; omega) (by rw [ew, en]; omega) (fun j hj => by rw [ew] at hj; rw [sb_cl0, Nat.zero_add, (e3 j hj).1]; exact jb_fit _ (e3 j hj).2) (Nat.le_of_ble_eq_true rfl) ?_
  rw [ew, en, sb_cl0]
  show ev_E g m_J0_getBytes_840e7 (2) (0) 25 [some (ev_x 1 k), some (ev_o (1000 + m) v), some (ev_i (Int32.ofNat n)), some (ev_i 0)] [] (ev_ur S v (jb_row k n (S.1 v))) _
  refine ev_goto 43 dJ0_getBytes_840e7_25 (by decide) ?_
  exact ev_return dJ0_getBytes_840e7_43 rfl ⟨rfl, rfl⟩
set_option maxHeartbeats 4000000 in
set_option maxRecDepth 100000 in
theorem c_putS {g : ev_G} {S : ev_S} {a k m v n : Nat} {t : List Nat} (h : sb_a S a t m v) (h1 : 10 ≤ k) (h2 : k < 14) (h3 : n + (jb_lit k).length ≤ m) : ev_Cv g m_J5_putStringAt_47b60 3 0 [ev_o 12 a, ev_i (Int32.ofNat n), ev_x 1 k] S (fun o z => o = .inl none ∧ z = ev_ur S v (jb_row k n (S.1 v))) := by
  obtain ⟨h0, hv, hb, hc, hn, hl, hm, hf, ht⟩ := h
  refine ev_enter (by decide) rfl rfl (Nat.le_of_ble_eq_true rfl) ?_
  show ev_E g m_J5_putStringAt_47b60 (3) (0) 0 [some (ev_o 12 a), some (ev_i (Int32.ofNat n)), some (ev_x 1 k)] [] (S) _
  refine ev_aload_n (ev_o 12 a) dJ5_putStringAt_47b60_0 rfl rfl ?_
  refine ev_aload_n (ev_x 1 k) dJ5_putStringAt_47b60_1 rfl rfl ?_
  refine ev_callU m_J5_inflateIfNeededFor_a7421 yJ5_inflateIfNeededFor_a7421 RJ5 2 0 397 12 (n := 1) (a := a) (K := []) [ev_x 1 k] dJ5_putStringAt_47b60_2 rfl rfl (by decide) kw_1751 kw_1753 kw_36 kw_1754 kv_1946 kw_1753 kw_1754 (Or.inr ⟨rfl, ⟨4, kw_1661⟩, kv_1752, kv_1946⟩) ⟨by decide, by decide, by decide +kernel⟩ rfl (by decide) (by decide) (by decide) (Nat.le_of_ble_eq_true rfl) (c_infl hc).cv (fun k z h9 => by cases h9.1) ?_
  rintro o1 z1 ⟨rfl, ez1⟩
  rw [ez1]
  clear ez1
  show ev_E g m_J5_putStringAt_47b60 (3) (0) 5 [some (ev_o 12 a), some (ev_i (Int32.ofNat n)), some (ev_x 1 k)] [] (S) _
  refine ev_aload_n (ev_x 1 k) dJ5_putStringAt_47b60_5 rfl rfl ?_
  refine ev_aload_n (ev_o 12 a) dJ5_putStringAt_47b60_6 rfl rfl ?_
  refine gf_12_0 dJ5_putStringAt_47b60_7 kw_1780 hv hb ?_
  refine ev_iload_n ((Int32.ofNat n)) dJ5_putStringAt_47b60_10 rfl ?_
  refine ev_aload_n (ev_o 12 a) dJ5_putStringAt_47b60_11 rfl rfl ?_
  refine gf_12_1 dJ5_putStringAt_47b60_12 kw_1781 ?_
  refine ev_ke (v' := 0) (hc) ?_
  refine ev_cK mv_J0_getBytes_840e7 2 0 [ev_o (1000 + m) v, ev_i (Int32.ofNat n), ev_i 0] [] dJ5_putStringAt_47b60_15 kw_1774 rfl (by decide) (by decide) (Nat.le_of_ble_eq_true rfl) (c_getB h1 h2 h3 hm) ?_ rfl
  rintro o1 z1 ⟨rfl, ez1⟩
  show ev_E g m_J5_putStringAt_47b60 (3) (0) 18 [some (ev_o 12 a), some (ev_i (Int32.ofNat n)), some (ev_x 1 k)] [] (z1) _
  exact ev_return dJ5_putStringAt_47b60_18 rfl ⟨rfl, ez1⟩
set_option maxHeartbeats 4000000 in
set_option maxRecDepth 100000 in
theorem c_appS5 {g : ev_G} {S : ev_S} {a k : Nat} {t : List Nat} (h : sb_is S a t) (g1 : 10 ≤ k) (g2 : k < 14) (g3 : t.length + (jb_lit k).length ≤ 300) : ev_Cv g m_J5_append_cf1ce 4 101 [ev_o 12 a, ev_x 1 k] S (fun o z => o = .inl (some (ev_o 12 a)) ∧ sb_fr g S z ∧ sb_is z a (t ++ jb_lit k)) := by
  obtain ⟨m, v, h⟩ := h
  have hn := h.2.2.2.2.1
  refine ev_enter (by decide) rfl rfl (Nat.le_of_ble_eq_true rfl) ?_
  show ev_E g m_J5_append_cf1ce (4) (101) 0 [some (ev_o 12 a), some (ev_x 1 k), none] [] (S) _
  refine ev_aload_n (ev_x 1 k) dJ5_append_cf1ce_0 rfl rfl ?_
  refine ev_ifnn 9 dJ5_append_cf1ce_1 rfl (by decide) ?_
  refine ev_aload_n (ev_x 1 k) dJ5_append_cf1ce_9 rfl rfl ?_
  refine ev_fK mv_J0_length_8abf5 2 [] [] dJ5_append_cf1ce_10 kw_1670 rfl (by decide) (Nat.le_of_ble_eq_true rfl) (sp_J0_length_8abf5 k) ?_ rfl
  refine ev_ke (v' := Int32.ofNat (jb_lit k).length) (jb_len g1 g2) ?_
  refine ev_istore_n dJ5_append_cf1ce_13 (Nat.le_of_ble_eq_true rfl) (ev_hw rfl) ?_
  show ev_E g m_J5_append_cf1ce (4) (101) 14 [some (ev_o 12 a), some (ev_x 1 k), some (ev_i (Int32.ofNat (jb_lit k).length))] [] (S) _
  refine ev_aload_n (ev_o 12 a) dJ5_append_cf1ce_14 rfl rfl ?_
  refine ev_aload_n (ev_o 12 a) dJ5_append_cf1ce_15 rfl rfl ?_
  refine gf_12_3 dJ5_append_cf1ce_16 kw_1783 ?_
  refine ev_ke (v' := Int32.ofNat t.length) (hn) ?_
  refine ev_iload_n ((Int32.ofNat (jb_lit k).length)) dJ5_append_cf1ce_19 rfl ?_
  refine ev_iadd dJ5_append_cf1ce_20 ?_
  refine ev_ke (v' := Int32.ofNat (t.length + (jb_lit k).length)) ((nI_add _ _ : nI t.length + nI (jb_lit k).length = nI (t.length + (jb_lit k).length))) ?_
  refine ev_callU m_J5_ensureCapacityInternal_d00df yJ5_ensureCapacityInternal_d00df RJ5 3 101 100 12 (n := 1) (a := a) (K := []) [ev_i (Int32.ofNat (t.length + (jb_lit k).length))] dJ5_append_cf1ce_21 rfl rfl (by decide) kw_1698 kw_1700 kw_36 kw_1701 kv_1943 kw_1700 kw_1701 (Or.inr ⟨rfl, ⟨4, kw_1661⟩, kv_1699, kv_1943⟩) ⟨by decide, by decide, by decide +kernel⟩ rfl (by decide) (by decide) (by decide) (Nat.le_of_ble_eq_true rfl) (c_ens h g3) (fun k z h9 => by cases h9.1) ?_
  rintro o1 z1 ⟨rfl, f1, m', v', hm', h1⟩
  have h1' := h1
  obtain ⟨h0, hv, hb, hc, hn, hl, hm, hf, ht⟩ := h1'
  show ev_E g m_J5_append_cf1ce (4) (0) 24 [some (ev_o 12 a), some (ev_x 1 k), some (ev_i (Int32.ofNat (jb_lit k).length))] [] (z1) _
  refine ev_aload_n (ev_o 12 a) dJ5_append_cf1ce_24 rfl rfl ?_
  refine ev_aload_n (ev_o 12 a) dJ5_append_cf1ce_25 rfl rfl ?_
  refine gf_12_3 dJ5_append_cf1ce_26 kw_1783 ?_
  refine ev_ke (v' := Int32.ofNat t.length) (hn) ?_
  refine ev_aload_n (ev_x 1 k) dJ5_append_cf1ce_29 rfl rfl ?_
  refine ev_callU m_J5_putStringAt_47b60 yJ5_putStringAt_47b60 RJ5 3 0 208 12 (n := 2) (a := a) (K := []) [ev_i (Int32.ofNat t.length), ev_x 1 k] dJ5_append_cf1ce_30 rfl rfl (by decide) kw_1747 kw_1749 kw_36 kw_1750 kv_1945 kw_1749 kw_1750 (Or.inr ⟨rfl, ⟨4, kw_1661⟩, kv_1748, kv_1945⟩) ⟨by decide, by decide, by decide +kernel⟩ rfl (by decide) (by decide) (by decide) (Nat.le_of_ble_eq_true rfl) (c_putS h1 g1 g2 hm') (fun k z h9 => by cases h9.1) ?_
  rintro o2 z2 ⟨rfl, ez2⟩
  show ev_E g m_J5_append_cf1ce (4) (0) 33 [some (ev_o 12 a), some (ev_x 1 k), some (ev_i (Int32.ofNat (jb_lit k).length))] [] (z2) _
  refine ev_aload_n (ev_o 12 a) dJ5_append_cf1ce_33 rfl rfl ?_
  refine ev_dup dJ5_append_cf1ce_34 rfl ?_
  have hav := sb_ne f1.2.1 h1
  have z2r : ∀ c', z2.1 c' = va_up z1.1 v' (jb_row k t.length (z1.1 v')) c' := fun _ => by rw [ez2]; rfl
  have z2a : z2.1 a = z1.1 a := by rw [z2r, va_up_ne _ _ hav]
  have z2v : z2.1 v' = jb_row k t.length (z1.1 v') := by rw [z2r, va_up_self]
  refine gf_12_3 dJ5_append_cf1ce_35 kw_1783 ?_
  refine ev_ke (v' := Int32.ofNat t.length) (by rw [z2a]; exact hn) ?_
  refine ev_iload_n ((Int32.ofNat (jb_lit k).length)) dJ5_append_cf1ce_38 rfl ?_
  refine ev_iadd dJ5_append_cf1ce_39 ?_
  refine ev_ke (v' := Int32.ofNat (t.length + (jb_lit k).length)) ((nI_add _ _ : nI t.length + nI (jb_lit k).length = nI (t.length + (jb_lit k).length))) ?_
  refine pf_12_3 dJ5_append_cf1ce_40 kw_1783 ?_
  refine ev_aload_n (ev_o 12 a) dJ5_append_cf1ce_43 rfl rfl ?_
  refine ev_areturn (.object "java/lang/AbstractStringBuilder") dJ5_append_cf1ce_44 rfl rfl (Or.inl ⟨_, rfl⟩) ⟨rfl, ?_⟩
  have ez : ∀ c', (ev_up z2 a 3 (Int32.ofNat (t.length + (jb_lit k).length))).1 c' = va_up z2.1 a (upd (z2.1 a) 3 (Int32.ofNat (t.length + (jb_lit k).length))) c' := fun _ => rfl
  have ev : (ev_up z2 a 3 (Int32.ofNat (t.length + (jb_lit k).length))).1 v' = z2.1 v' := by rw [ez, va_up_ne _ _ (Ne.symm hav)]
  obtain ⟨k1, k2, k3⟩ := jb_row_ok (n := t.length) g1 g2 hf
  refine sb_put (s := jb_lit k) f1 h1 hm' (by rw [ez2]; rfl) ?_ ?_ ?_ ?_ ?_ ?_
  · intro c' h8 h9
    rw [ez, va_up_ne _ _ h8, z2r, va_up_ne _ _ h9]
  · rw [ez, va_up_self, pk_un (by decide), z2a]
  · rw [ez, va_up_self, pk_us]
  · rw [ev, z2v]
    exact k1
  · intro j hj
    rw [ev, z2v]
    exact k2 j hj
  · intro j hj
    rw [ev, z2v]
    exact k3 j hj
set_option maxHeartbeats 4000000 in
set_option maxRecDepth 100000 in
theorem c_appS {g : ev_G} {S : ev_S} {a k : Nat} {t : List Nat} (h : sb_is S a t) (g1 : 10 ≤ k) (g2 : k < 14) (g3 : t.length + (jb_lit k).length ≤ 300) : ev_Cv g m_J4_append_15ec4 5 101 [ev_o 12 a, ev_x 1 k] S (fun o z => o = .inl (some (ev_o 12 a)) ∧ sb_fr g S z ∧ sb_is z a (t ++ jb_lit k)) := by
  refine ev_enter (by decide) rfl rfl (Nat.le_of_ble_eq_true rfl) ?_
  show ev_E g m_J4_append_15ec4 (5) (101) 0 [some (ev_o 12 a), some (ev_x 1 k)] [] (S) _
  refine ev_aload_n (ev_o 12 a) dJ4_append_15ec4_0 rfl rfl ?_
  refine ev_aload_n (ev_x 1 k) dJ4_append_15ec4_1 rfl rfl ?_
  refine ev_callSU m_J5_append_cf1ce 4 101 29 12 (n := 1) (a := a) (K := []) [ev_x 1 k] dJ4_append_15ec4_2 rfl rfl (by decide) (by decide) kw_1691 kw_1682 kw_36 kw_1693 kv_1683 kv_1692 (by decide +kernel) rfl (by decide) (by decide) (by decide) (Nat.le_of_ble_eq_true rfl) (c_appS5 h g1 g2 g3) (fun k z h9 => by cases h9.1) ?_
  rintro o1 z1 ⟨rfl, f1, h1⟩
  show ev_E g m_J4_append_15ec4 (5) (0) 5 [some (ev_o 12 a), some (ev_x 1 k)] [ev_o 12 a] (z1) _
  refine ev_pop dJ4_append_15ec4_5 rfl ?_
  refine ev_aload_n (ev_o 12 a) dJ4_append_15ec4_6 rfl rfl ?_
  exact ev_areturn (.object "java/lang/StringBuilder") dJ4_append_15ec4_7 rfl rfl (Or.inl ⟨_, rfl⟩) ⟨rfl, f1, h1⟩
set_option maxHeartbeats 4000000 in
set_option maxRecDepth 100000 in
theorem c_appSb {g : ev_G} {S : ev_S} {a k : Nat} {t : List Nat} (h : sb_is S a t) (g1 : 10 ≤ k) (g2 : k < 14) (g3 : t.length + (jb_lit k).length ≤ 300) : ev_Cv g m_J4_append_cf1ce 6 101 [ev_o 12 a, ev_x 1 k] S (fun o z => o = .inl (some (ev_o 12 a)) ∧ sb_fr g S z ∧ sb_is z a (t ++ jb_lit k)) := by
  refine ev_enter (by decide) rfl rfl (Nat.le_of_ble_eq_true rfl) ?_
  show ev_E g m_J4_append_cf1ce (6) (101) 0 [some (ev_o 12 a), some (ev_x 1 k)] [] (S) _
  refine ev_aload_n (ev_o 12 a) dJ4_append_cf1ce_0 rfl rfl ?_
  refine ev_aload_n (ev_x 1 k) dJ4_append_cf1ce_1 rfl rfl ?_
  refine ev_cV mv_J4_append_15ec4 5 101 12 [ev_x 1 k] [] dJ4_append_cf1ce_2 kw_1687 rfl (by decide) rfl (by decide) (by decide) (Nat.le_of_ble_eq_true rfl) (c_appS h g1 g2 g3) ?_ rfl
  rintro o1 z1 ⟨rfl, f1, h1⟩
  show ev_E g m_J4_append_cf1ce (6) (0) 5 [some (ev_o 12 a), some (ev_x 1 k)] [ev_o 12 a] (z1) _
  exact ev_areturn (.object "java/lang/AbstractStringBuilder") dJ4_append_cf1ce_5 rfl rfl (Or.inl ⟨_, rfl⟩) ⟨rfl, f1, h1⟩
/-- a builder with its first bytes -/
theorem sb_born {g : ev_G} {S z : ev_S} {a q n : Nat} (hw : ev_lw g S.2.1) (h0 : (4, a) ∈ S.2.1) (hn : S.1 a 3 = 0) (hq : ev_lw g ((10 + n, q) :: S.2.1)) (h2 : n ≤ 700) (e : z = ev_uo (ev_nt (ev_up S a 1 0) (10 + n) q (fun _ _ => 0)) a 0 q) : sb_fr g S z ∧ sb_is z a [] := by
  have hat := jb_at4 (g := g) h0
  have hao := jb_out hq hat
  rw [jb_tkb] at hao
  have hao : ¬ (q ≤ a ∧ a < q + 1) := hao
  have haq : a ≠ q := by omega
  have e0 := jb_nt1 (S := ev_up S a 1 0) (R := fun _ _ => 0) hq hat
  have e2 := jb_nt2 (S := ev_up S a 1 0) (t := 10 + n) (q := q) (R := fun _ _ => 0) (by rw [jb_tkb]; exact Nat.zero_lt_one)
  have eu : (ev_up S a 1 0).1 a = upd (S.1 a) 1 0 := va_up_self _ _ _
  have eΛ : z.2.1 = (10 + n, q) :: S.2.1 := by rw [e]; rfl
  have za : z.1 a = upd (S.1 a) 1 0 := by rw [e]; exact e0.1.trans eu
  have zq : z.1 q = fun _ => 0 := by rw [e]; exact e2.1
  have f1 : sb_fr g S (ev_up S a 1 0) := sb_fr_at (a := a) (k0 := (12, 0)) hw hat (Or.inl rfl) rfl (fun c hc => va_up_ne _ _ hc) (fun c _ => rfl)
  have f2 : sb_fr g (ev_up S a 1 0) (ev_nt (ev_up S a 1 0) (10 + n) q (fun _ _ => 0)) := sb_fr_nt hq
  have f3 : sb_fr g (ev_nt (ev_up S a 1 0) (10 + n) q (fun _ _ => 0)) z := by
    rw [e]
    exact sb_fr_at (a := a) (k0 := (12, 0)) hq (ev_at_up (List.suffix_cons _ _) hat) (Or.inl rfl) rfl (fun c _ => rfl) (fun c hc => va_up_ne _ _ hc)
  refine ⟨(f1.trans f2).trans f3, n, q, by rw [eΛ]; exact List.mem_cons_of_mem _ h0, ?_, by rw [eΛ]; exact List.mem_cons_self, by rw [za, pk_us], by rw [za, pk_un (by decide), hn]; rfl, Nat.zero_le _, h2, by rw [zq]; exact jb_fi0, fun j hj => by cases hj⟩
  rw [e]
  show va_up _ a (va_up _ 0 (some q)) a 0 = some q
  rw [va_up_self, va_up_self]
set_option maxHeartbeats 4000000 in
set_option maxRecDepth 100000 in
theorem c_ini5 {g : ev_G} {S : ev_S} {a k : Nat} (h0 : (4, a) ∈ S.2.1) (hn : S.1 a 3 = 0) (g1 : 10 ≤ k) (g2 : k < 14) : ev_Cv g m_J5_init_a7421 7 105 [ev_o 12 a, ev_x 1 k] S (fun o z => o = .inl none ∧ sb_fr g S z ∧ sb_is z a (jb_lit k)) := by
  have hle := jb_lit_le g1 g2
  refine ev_enter (by decide) rfl rfl (Nat.le_of_ble_eq_true rfl) ?_
  refine ev_lwE (fun hw => ?_)
  show ev_E g m_J5_init_a7421 (7) (105) 0 [some (ev_o 12 a), some (ev_x 1 k), none, none, none] [] (S) _
  refine ev_aload_n (ev_o 12 a) dJ5_init_a7421_0 rfl rfl ?_
  refine ev_objI dJ5_init_a7421_1 kw_1669 kz_55 kz_56 ?_
  refine ev_aload_n (ev_x 1 k) dJ5_init_a7421_4 rfl rfl ?_
  refine ev_fK mv_J0_length_8abf5 2 [] [] dJ5_init_a7421_5 kw_1670 rfl (by decide) (Nat.le_of_ble_eq_true rfl) (sp_J0_length_8abf5 k) ?_ rfl
  refine ev_ke (v' := Int32.ofNat (jb_lit k).length) (jb_len g1 g2) ?_
  refine ev_istore_n dJ5_init_a7421_8 (Nat.le_of_ble_eq_true rfl) (ev_hw rfl) ?_
  show ev_E g m_J5_init_a7421 (7) (105) 9 [some (ev_o 12 a), some (ev_x 1 k), some (ev_i (Int32.ofNat (jb_lit k).length)), none, none] [] (S) _
  refine ev_iload_n ((Int32.ofNat (jb_lit k).length)) dJ5_init_a7421_9 rfl ?_
  refine ev_ldci 2147483631 dJ5_init_a7421_10 kw_1671 ?_
  refine ev_icmp_ge 22 dJ5_init_a7421_12 (by decide) (fun h9 => absurd h9 (show ¬ nI 2147483631 ≤ nI (jb_lit k).length from fun h9 => by have := (nI_leI (by decide) (by omega)).mp h9; omega)) (fun _ => ?_)
  refine ev_iload_n ((Int32.ofNat (jb_lit k).length)) dJ5_init_a7421_15 rfl ?_
  refine ev_bipush (16) dJ5_init_a7421_16 (by decide) ?_
  refine ev_iadd dJ5_init_a7421_18 ?_
  refine ev_ke (v' := Int32.ofNat ((jb_lit k).length + 16)) ((nI_add _ 16 : nI (jb_lit k).length + nI 16 = nI ((jb_lit k).length + 16))) ?_
  refine ev_goto 24 dJ5_init_a7421_19 (by decide) ?_
  refine ev_istore_n dJ5_init_a7421_24 (Nat.le_of_ble_eq_true rfl) (ev_hw rfl) ?_
  show ev_E g m_J5_init_a7421 (7) (105) 25 [some (ev_o 12 a), some (ev_x 1 k), some (ev_i (Int32.ofNat (jb_lit k).length)), some (ev_i (Int32.ofNat ((jb_lit k).length + 16))), none] [] (S) _
  refine ev_aload_n (ev_x 1 k) dJ5_init_a7421_25 rfl rfl ?_
  refine ev_fK mv_J0_coder_7d493 1 [] [] dJ5_init_a7421_26 kw_1673 rfl (by decide) (Nat.le_of_ble_eq_true rfl) (sp_J0_coder_7d493 k) ?_ rfl
  refine ev_istore dJ5_init_a7421_29 (Nat.le_of_ble_eq_true rfl) (ev_hw rfl) ?_
  show ev_E g m_J5_init_a7421 (7) (105) 31 [some (ev_o 12 a), some (ev_x 1 k), some (ev_i (Int32.ofNat (jb_lit k).length)), some (ev_i (Int32.ofNat ((jb_lit k).length + 16))), some (ev_i 0)] [] (S) _
  refine ev_aload_n (ev_o 12 a) dJ5_init_a7421_31 rfl rfl ?_
  refine ev_iload (0) dJ5_init_a7421_32 rfl ?_
  refine pf_12_1 dJ5_init_a7421_34 kw_1781 (Or.inl rfl) ?_
  refine ev_aload_n (ev_o 12 a) dJ5_init_a7421_37 rfl rfl ?_
  refine ev_iload (0) dJ5_init_a7421_38 rfl ?_
  refine ev_if_ne 49 dJ5_init_a7421_40 (by decide) (fun h9 => absurd (rfl) h9) (fun _ => ?_)
  refine ev_iload_n ((Int32.ofNat ((jb_lit k).length + 16))) dJ5_init_a7421_43 rfl ?_
  refine ev_newB ((jb_lit k).length + 16) 4 dJ5_init_a7421_44 kw_635 rfl (by omega) (by decide) (by decide) (by omega) (fun q hq => ?_)
  show ev_E g m_J5_init_a7421 (7) (101) 46 [some (ev_o 12 a), some (ev_x 1 k), some (ev_i (Int32.ofNat (jb_lit k).length)), some (ev_i (Int32.ofNat ((jb_lit k).length + 16))), some (ev_i 0)] [ev_o (1000 + ((jb_lit k).length + 16)) q, ev_o 12 a] (ev_nt (ev_up S a 1 0) (10 + ((jb_lit k).length + 16)) q (fun _ _ => 0)) _
  refine ev_goto 53 dJ5_init_a7421_46 (by decide) ?_
  refine pf_12_0 dJ5_init_a7421_53 kw_1780 ?_
  generalize hS1 : ev_uo (ev_nt (ev_up S a 1 0) (10 + ((jb_lit k).length + 16)) q (fun _ _ => 0)) a 0 q = S1
  obtain ⟨f0, hb0⟩ := sb_born hw h0 hn hq (by omega) hS1.symm
  show ev_E g m_J5_init_a7421 (7) (101) 56 [some (ev_o 12 a), some (ev_x 1 k), some (ev_i (Int32.ofNat (jb_lit k).length)), some (ev_i (Int32.ofNat ((jb_lit k).length + 16))), some (ev_i 0)] [] (S1) _
  refine ev_aload_n (ev_o 12 a) dJ5_init_a7421_56 rfl rfl ?_
  refine ev_aload_n (ev_x 1 k) dJ5_init_a7421_57 rfl rfl ?_
  refine ev_callU m_J4_append_cf1ce yJ5_append_cf1ce RJ5 6 101 43 12 (n := 1) (a := a) (K := []) [ev_x 1 k] dJ5_init_a7421_58 rfl rfl (by decide) kw_1681 kw_1685 kw_37 kw_1686 kv_1683 kw_1682 kw_1693 (Or.inl kw_1684) ⟨by decide, by decide, by decide +kernel⟩ rfl (by decide) (by decide) (by decide) (Nat.le_of_ble_eq_true rfl) (c_appSb hb0 g1 g2 (by show 0 + _ ≤ _; omega)) (fun k z h9 => by cases h9.1) ?_
  rintro o1 z1 ⟨rfl, f1, h1⟩
  show ev_E g m_J5_init_a7421 (7) (0) 61 [some (ev_o 12 a), some (ev_x 1 k), some (ev_i (Int32.ofNat (jb_lit k).length)), some (ev_i (Int32.ofNat ((jb_lit k).length + 16))), some (ev_i 0)] [ev_o 12 a] (z1) _
  refine ev_pop dJ5_init_a7421_61 rfl ?_
  exact ev_return dJ5_init_a7421_62 rfl ⟨rfl, f0.trans f1, h1⟩
set_option maxHeartbeats 4000000 in
set_option maxRecDepth 100000 in
theorem c_ini {g : ev_G} {S : ev_S} {a k : Nat} (h0 : (4, a) ∈ S.2.1) (hn : S.1 a 3 = 0) (g1 : 10 ≤ k) (g2 : k < 14) : ev_Cv g m_J4_init_a7421 8 105 [ev_o 12 a, ev_x 1 k] S (fun o z => o = .inl none ∧ sb_fr g S z ∧ sb_is z a (jb_lit k)) := by
  refine ev_enter (by decide) rfl rfl (Nat.le_of_ble_eq_true rfl) ?_
  show ev_E g m_J4_init_a7421 (8) (105) 0 [some (ev_o 12 a), some (ev_x 1 k)] [] (S) _
  refine ev_aload_n (ev_o 12 a) dJ4_init_a7421_0 rfl rfl ?_
  refine ev_aload_n (ev_x 1 k) dJ4_init_a7421_1 rfl rfl ?_
  refine ev_callI m_J5_init_a7421 7 105 7 12 (n := 1) (a := a) (K := []) [ev_x 1 k] dJ4_init_a7421_2 rfl rfl rfl kw_1666 kw_1667 kw_36 kw_1668 ⟨by decide, by decide, by decide +kernel⟩ rfl (by decide) (by decide) (by decide) (Nat.le_of_ble_eq_true rfl) (c_ini5 h0 hn g1 g2) (fun k z h9 => by cases h9.1) ?_
  rintro o1 z1 ⟨rfl, f1, h1⟩
  show ev_E g m_J4_init_a7421 (8) (0) 5 [some (ev_o 12 a), some (ev_x 1 k)] [] (z1) _
  exact ev_return dJ4_init_a7421_5 rfl ⟨rfl, f1, h1⟩
