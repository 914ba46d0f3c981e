/-! ===== toString (printed by gen_y25.py) ===== -/
section Je
variable {g : ev_G} {μ : ev_M} {d B pc : Nat} {L : List (Option ev_V)} {K : List ev_V} {S : ev_S} {Q : ev_O → ev_S → Prop}
/-- the bytes' clone, and the cast behind it -/
theorem ev_cloneB {index m v : Nat} (c9 : Nat) (h : decode (ev_by μ) pc = .ok (.invokevirtual index, 3)) (hl : Cond.methodLink (ev_own μ) index ⟨"[B", "clone", "()Ljava/lang/Object;"⟩ ∈ ev_gw) (hf : jb_fi (S.1 v)) (hB : c9 ≤ B) (h1 : 1 ≤ c9) (h2 : m ≤ 6 * c9) (hcat : (K.map ev_w).sum ≤ 8) (kk : ∀ q, ev_lw g ((10 + m, q) :: S.2.1) → ev_E g μ d (B - c9) (pc + 3) L (ev_o (1000 + m) q :: K) (ev_nt S (10 + m) q (fun _ => S.1 v)) Q) : ev_E g μ d B pc L (ev_o (1000 + m) v :: K) S Q := by
  intro l p e R s m' args below meth c H locs cells slots mc ms Λ ls X hL hz hK
  have X4 := X.rm
  have h0 : ev_at g S.2.1 (23, m) v := ev_ko_b (hK _ List.mem_cons_self)
  obtain ⟨q0, hq0⟩ := ev_get_ws (S := S) h0
  have hnm : s.vm.findClass "[B" = some (ev_cB g) := (X.2.1.2.1.2 2 (ev_cB g, .byte) rfl).2
  refine va_clone (ty := .byte) (x := (m, .inl (S.1 v))) (cA := ev_cB g) X.1.1 X.1.2.1 (X.1.2.2.2.1.trans hz.symm) X.1.2.2.2.2.1 (X.2.1.1 _ hl) (X.2.1.1 _ kv_1718) (X.2.1.1 _ kv_1719) (X.2.1.1 _ kv_1720) (X.2.1.1 _ kv_1721) (X.2.1.2.2.1.1.2.2.2.1 _ kv_1722) X.2.1.2.1 X.2.2.2.1 (ev_ws_D X.lw) X.2.2.2.2 (fun q hq => Nat.le_trans X.2.1.2.2.2 hq) q0 2 hq0 rfl hnm (va_fit (fun i _ => by obtain ⟨c, h8, h9⟩ := hf i; rw [h9]; exact jb_fit c h8)) (by omega) (by rw [ev_cats X.fm]; omega) (by omega) (by show slots + m ≤ _; omega) h (fun q H1 _ hP hD hS => ?_)
  obtain ⟨hw, hP1⟩ := ev_nt1 (t := 10 + m) (k := (23, m)) (R := fun _ => S.1 v) (jb_tkb m) X.lw rfl hP hD
  exact kk q hw l p e R s m' args below meth c H1 locs (cells + 1) (slots + m) mc ms Λ ls (X.grow hw hP1 hS hB h1 h2) (ev_L_up (List.suffix_cons _ _) hL) hz (List.forall_mem_cons.mpr ⟨jb_okb List.mem_cons_self, fun v hv => ev_ok_up (List.suffix_cons _ _) (hK v (List.mem_cons_of_mem _ hv))⟩)
theorem ev_castB {index m v : Nat} (h : decode (ev_by μ) pc = .ok (.checkcast index, 3)) (hl : Cond.classLink (ev_own μ) index "[B" ∈ ev_gw) (kk : ev_E g μ d B (pc + 3) L (ev_o (1000 + m) v :: K) S Q) : ev_E g μ d B pc L (ev_o (1000 + m) v :: K) S Q := by
  intro l p e R s m' args below meth c H locs cells slots mc ms Λ ls X hL hz hK
  have h0 : ev_at g S.2.1 (23, m) v := ev_ko_b (hK _ List.mem_cons_self)
  obtain ⟨q0, hq0⟩ := ev_get_ws (S := S) h0
  have hnm : s.vm.findClass "[B" = some (ev_cB g) := (X.2.1.2.1.2 2 (ev_cB g, .byte) rfl).2
  exact va_castA X.1.1 X.1.2.1 X.1.2.2.2.2.1 (X.2.1.1 _ hl) X.2.2.2.1 q0 hq0 hnm h (kk l p e R s m' args below meth c H locs cells slots mc ms Λ ls X hL hz hK)
end Je
/-- a String at b holds the text t -/
def st_is (S : ev_S) (b : Nat) (t : List Nat) : Prop := (5, b) ∈ S.2.1 ∧ ∃ v, S.2.2 b 0 = some v ∧ (10 + t.length, v) ∈ S.2.1 ∧ S.1 b 1 = 0 ∧ ∀ j, j < t.length → S.1 v j = Int32.ofNat (t.getD j 0)
/-- nothing old changes -/
def sb_ol (g : ev_G) (S z : ev_S) : Prop := S.2.1 <:+ z.2.1 ∧ ev_lw g z.2.1 ∧ ∀ c k, ev_at g S.2.1 k c → z.1 c = S.1 c ∧ z.2.2 c = S.2.2 c
theorem sb_ol.trans {g : ev_G} {S z w : ev_S} (h1 : sb_ol g S z) (h2 : sb_ol g z w) : sb_ol g S w :=
  ⟨h1.1.trans h2.1, h2.2.1, fun c k hc => ⟨((h2.2.2 c k (ev_at_up h1.1 hc)).1).trans (h1.2.2 c k hc).1, ((h2.2.2 c k (ev_at_up h1.1 hc)).2).trans (h1.2.2 c k hc).2⟩⟩
theorem sb_ol_nt {g : ev_G} {S : ev_S} {t q : Nat} {R : Nat → Nat → Int32} (hw : ev_lw g ((t, q) :: S.2.1)) : sb_ol g S (ev_nt S t q R) := ⟨List.suffix_cons _ _, hw, fun c k hc => jb_nt1 hw hc⟩
/-- new bytes at q, the first of them as v's -/
def jb_nb (g : ev_G) (S z : ev_S) (n v q : Nat) : Prop := z.2.1 = (10 + n, q) :: S.2.1 ∧ sb_ol g S z ∧ ∀ j, j < n → z.1 q j = S.1 v j
set_option maxHeartbeats 4000000 in
set_option maxRecDepth 100000 in
theorem c_chk {g : ev_G} {S : ev_S} {n : Nat} (hn : n ≤ 700) : ev_Fn g m_J7_checkLength_df160 1 [ev_i 0, ev_i (Int32.ofNat n)] S none S := by
  intro Q hQ
  refine ev_enter (by decide) rfl rfl (Nat.le_of_ble_eq_true rfl) ?_
  show ev_E g m_J7_checkLength_df160 (1) (0) 0 [some (ev_i 0), some (ev_i (Int32.ofNat n))] [] (S) Q
  refine ev_iload_n ((Int32.ofNat n)) dJ7_checkLength_df160_0 rfl ?_
  refine ev_iload_n (0) dJ7_checkLength_df160_1 rfl ?_
  refine ev_icmp_ge 37 dJ7_checkLength_df160_2 (by decide) (fun _ => ?_) (fun h9 => absurd (show nI 0 ≤ nI n from nI_le (Nat.zero_le _) (by omega)) h9)
  exact ev_return dJ7_checkLength_df160_37 rfl hQ
theorem jb_mn {m n : Nat} (h : n < m) (hm : m ≤ 1000) : ev_min (Int32.ofNat m) (Int32.ofNat n) = Int32.ofNat n := by
  unfold ev_min
  exact if_pos (show nI n < nI m from nI_lt h (by omega))
set_option maxHeartbeats 4000000 in
set_option maxRecDepth 100000 in
theorem c_corB {g : ev_G} {S : ev_S} {m v n : Nat} (hv : ev_at g S.2.1 (23, m) v) (hf : jb_fi (S.1 v)) (h1 : n < m) (h2 : m ≤ 700) : ev_Cv g m_J7_copyOfRangeByte_39247 2 120 [ev_o (1000 + m) v, ev_i 0, ev_i (Int32.ofNat n)] S (fun o z => ∃ q, o = .inl (some (ev_o (1000 + n) q)) ∧ jb_nb g S z n v q) := by
  refine ev_enter (by decide) rfl rfl (Nat.le_of_ble_eq_true rfl) ?_
  show ev_E g m_J7_copyOfRangeByte_39247 (2) (120) 0 [some (ev_o (1000 + m) v), some (ev_i 0), some (ev_i (Int32.ofNat n)), none, none] [] (S) _
  refine ev_iload_n (0) dJ7_copyOfRangeByte_39247_0 rfl ?_
  refine ev_iload_n ((Int32.ofNat n)) dJ7_copyOfRangeByte_39247_1 rfl ?_
  refine ev_fSn ms_J7_checkLength_df160 1 [ev_i 0, ev_i (Int32.ofNat n)] [] dJ7_copyOfRangeByte_39247_2 kw_1867 rfl (by decide) (Nat.le_of_ble_eq_true rfl) (c_chk (by omega)) ?_ rfl
  refine ev_iload_n ((Int32.ofNat n)) dJ7_copyOfRangeByte_39247_5 rfl ?_
  refine ev_iload_n (0) dJ7_copyOfRangeByte_39247_6 rfl ?_
  refine ev_isub dJ7_copyOfRangeByte_39247_7 ?_
  refine ev_ke (v' := Int32.ofNat n) ((pk_sub (Nat.zero_le _) : nI n - nI 0 = nI (n - 0))) ?_
  refine ev_istore_n dJ7_copyOfRangeByte_39247_8 (Nat.le_of_ble_eq_true rfl) (ev_hw rfl) ?_
  show ev_E g m_J7_copyOfRangeByte_39247 (2) (120) 9 [some (ev_o (1000 + m) v), some (ev_i 0), some (ev_i (Int32.ofNat n)), some (ev_i (Int32.ofNat n)), none] [] (S) _
  refine ev_iload_n ((Int32.ofNat n)) dJ7_copyOfRangeByte_39247_9 rfl ?_
  refine ev_newB n 120 dJ7_copyOfRangeByte_39247_10 kw_635 rfl (by omega) (Nat.le_refl _) (by omega) (by omega) (fun q hq => ?_)
  show ev_E g m_J7_copyOfRangeByte_39247 (2) (0) 12 [some (ev_o (1000 + m) v), some (ev_i 0), some (ev_i (Int32.ofNat n)), some (ev_i (Int32.ofNat n)), none] [ev_o (1000 + n) q] (ev_nt S (10 + n) q (fun _ _ => 0)) _
  refine ev_astore dJ7_copyOfRangeByte_39247_12 rfl (Nat.le_of_ble_eq_true rfl) (ev_hw rfl) ?_
  show ev_E g m_J7_copyOfRangeByte_39247 (2) (0) 14 [some (ev_o (1000 + m) v), some (ev_i 0), some (ev_i (Int32.ofNat n)), some (ev_i (Int32.ofNat n)), some (ev_o (1000 + n) q)] [] (ev_nt S (10 + n) q (fun _ _ => 0)) _
  refine ev_aload_n (ev_o (1000 + m) v) dJ7_copyOfRangeByte_39247_14 rfl rfl ?_
  refine ev_iload_n (0) dJ7_copyOfRangeByte_39247_15 rfl ?_
  refine ev_aload (ev_o (1000 + n) q) dJ7_copyOfRangeByte_39247_16 rfl rfl ?_
  refine ev_iconst (0) dJ7_copyOfRangeByte_39247_18 rfl ?_
  refine ev_aload_n (ev_o (1000 + m) v) dJ7_copyOfRangeByte_39247_19 rfl rfl ?_
  refine ev_alenB dJ7_copyOfRangeByte_39247_20 ?_
  refine ev_iload_n (0) dJ7_copyOfRangeByte_39247_21 rfl ?_
  refine ev_isub dJ7_copyOfRangeByte_39247_22 ?_
  refine ev_ke (v' := Int32.ofNat m) ((pk_sub (Nat.zero_le _) : nI m - nI 0 = nI (m - 0))) ?_
  refine ev_iload_n ((Int32.ofNat n)) dJ7_copyOfRangeByte_39247_23 rfl ?_
  refine ev_mathMin dJ7_copyOfRangeByte_39247_24 kw_1724 kw_424 kw_31 kw_425 (Nat.le_of_ble_eq_true rfl) ?_
  refine ev_ke (v' := Int32.ofNat n) (jb_mn h1 (by omega)) ?_
  have e0 := jb_nt1 (R := fun _ _ => 0) hq hv
  have e1 := jb_nt2 (S := S) (t := 10 + n) (q := q) (R := fun _ _ => 0) (by rw [jb_tkb]; exact Nat.zero_lt_one)
  have en : (Int32.ofNat n).toNatClampNeg = n := nI_clamp (by omega)
  refine ev_cpyB dJ7_copyOfRangeByte_39247_27 kw_1725 kw_582 kw_581 kw_33 (by decide) (by decide) (show ¬ nI n < 0 from nI_pos (by omega)) (by rw [en, sb_cl0]; omega) (by rw [en, sb_cl0]; omega) (fun i _ => by obtain ⟨c, h8, h9⟩ := hf ((0 : Int32).toNatClampNeg + i); rw [e0.1, h9]; exact jb_fit c h8) (Nat.le_of_ble_eq_true rfl) ?_
  rw [en, sb_cl0, e0.1, e1.1]
  show ev_E g m_J7_copyOfRangeByte_39247 (2) (0) 30 [some (ev_o (1000 + m) v), some (ev_i 0), some (ev_i (Int32.ofNat n)), some (ev_i (Int32.ofNat n)), some (ev_o (1000 + n) q)] [] (ev_ur (ev_nt S (10 + n) q (fun _ _ => 0)) q (va_cpy (S.1 v) (fun _ => 0) 0 0 n)) _
  refine ev_aload (ev_o (1000 + n) q) dJ7_copyOfRangeByte_39247_30 rfl rfl ?_
  refine ev_areturn (.array .byte) dJ7_copyOfRangeByte_39247_32 rfl rfl (Or.inr ⟨_, rfl⟩) ⟨q, rfl, rfl, ⟨List.suffix_cons _ _, hq, fun c k hc => ?_⟩, fun j hj => ?_⟩
  · have hne : c ≠ q := by
      have := jb_out hq hc
      rw [jb_tkb] at this
      have : ¬ (q ≤ c ∧ c < q + 1) := this
      omega
    have e9 := jb_nt1 (R := fun _ _ => 0) hq hc
    exact ⟨(va_up_ne _ _ hne).trans e9.1, e9.2⟩
  · show va_up _ q (va_cpy (S.1 v) (fun _ => 0) 0 0 n) q j = _
    rw [va_up_self, pk_cpy_in (Nat.zero_le _) (by omega), show 0 + (j - 0) = j by omega]
set_option maxHeartbeats 4000000 in
set_option maxRecDepth 100000 in
theorem c_cor {g : ev_G} {S : ev_S} {m v n : Nat} (hv : ev_at g S.2.1 (23, m) v) (hf : jb_fi (S.1 v)) (h1 : n ≤ m) (h2 : m ≤ 700) : ev_Cv g m_J7_copyOfRange_39247 3 120 [ev_o (1000 + m) v, ev_i 0, ev_i (Int32.ofNat n)] S (fun o z => ∃ q, o = .inl (some (ev_o (1000 + n) q)) ∧ jb_nb g S z n v q) := by
  refine ev_enter (by decide) rfl rfl (Nat.le_of_ble_eq_true rfl) ?_
  show ev_E g m_J7_copyOfRange_39247 (3) (120) 0 [some (ev_o (1000 + m) v), some (ev_i 0), some (ev_i (Int32.ofNat n))] [] (S) _
  refine ev_iload_n (0) dJ7_copyOfRange_39247_0 rfl ?_
  refine ev_if_ne 10 dJ7_copyOfRange_39247_1 (by decide) (fun h9 => absurd (rfl) h9) (fun _ => ?_)
  refine ev_iload_n ((Int32.ofNat n)) dJ7_copyOfRange_39247_4 rfl ?_
  refine ev_aload_n (ev_o (1000 + m) v) dJ7_copyOfRange_39247_5 rfl rfl ?_
  refine ev_alenB dJ7_copyOfRange_39247_6 ?_
  by_cases hnm : n = m
  · subst hnm
    show ev_E g m_J7_copyOfRange_39247 (3) (120) 7 [some (ev_o (1000 + n) v), some (ev_i 0), some (ev_i (Int32.ofNat n))] [ev_i (Int32.ofNat n), ev_i (Int32.ofNat n)] (S) _
    refine ev_icmp_eq 17 dJ7_copyOfRange_39247_7 (by decide) (fun _ => ?_) (fun h9 => absurd (rfl) h9)
    refine ev_aload_n (ev_o (1000 + n) v) dJ7_copyOfRange_39247_17 rfl rfl ?_
    refine ev_cloneB 120 dJ7_copyOfRange_39247_18 kw_1717 hf (Nat.le_refl _) (by decide) (by omega) (Nat.le_of_ble_eq_true rfl) (fun q hq => ?_)
    show ev_E g m_J7_copyOfRange_39247 (3) (0) 21 [some (ev_o (1000 + n) v), some (ev_i 0), some (ev_i (Int32.ofNat n))] [ev_o (1000 + n) q] (ev_nt S (10 + n) q (fun _ => S.1 v)) _
    refine ev_castB dJ7_copyOfRange_39247_21 kv_1723 ?_
    refine ev_areturn (.array .byte) dJ7_copyOfRange_39247_24 rfl rfl (Or.inr ⟨_, rfl⟩) ⟨q, rfl, rfl, sb_ol_nt hq, fun j _ => ?_⟩
    rw [(jb_nt2 (S := S) (t := 10 + n) (q := q) (R := fun _ => S.1 v) (by rw [jb_tkb]; exact Nat.zero_lt_one)).1]
  · skip
    refine ev_icmp_eq 17 dJ7_copyOfRange_39247_7 (by decide) (fun h9 => absurd h9 (fun h9 => hnm ((nI_eq (by omega) (by omega)).mp h9))) (fun _ => ?_)
    refine ev_aload_n (ev_o (1000 + m) v) dJ7_copyOfRange_39247_10 rfl rfl ?_
    refine ev_iload_n (0) dJ7_copyOfRange_39247_11 rfl ?_
    refine ev_iload_n ((Int32.ofNat n)) dJ7_copyOfRange_39247_12 rfl ?_
    refine ev_cS ms_J7_copyOfRangeByte_39247 2 120 [ev_o (1000 + m) v, ev_i 0, ev_i (Int32.ofNat n)] [] dJ7_copyOfRange_39247_13 kw_1864 rfl (by decide) (by decide) (Nat.le_of_ble_eq_true rfl) (c_corB hv hf (by omega) h2) ?_ rfl
    rintro o1 z1 ⟨q, rfl, hz⟩
    show ev_E g m_J7_copyOfRange_39247 (3) (0) 16 [some (ev_o (1000 + m) v), some (ev_i 0), some (ev_i (Int32.ofNat n))] [ev_o (1000 + n) q] (z1) _
    exact ev_areturn (.array .byte) dJ7_copyOfRange_39247_16 rfl rfl (Or.inr ⟨_, rfl⟩) ⟨q, rfl, hz⟩
set_option maxHeartbeats 4000000 in
set_option maxRecDepth 100000 in
theorem c_gval {g : ev_G} {S : ev_S} {a m v : Nat} (hv : S.2.2 a 0 = some v) (hb : (10 + m, v) ∈ S.2.1) : ev_Fn g m_J5_getValue_6d5f1 1 [ev_o 12 a] S (some (ev_o (1000 + m) v)) S := by
  intro Q hQ
  refine ev_enter (by decide) rfl rfl (Nat.le_of_ble_eq_true rfl) ?_
  show ev_E g m_J5_getValue_6d5f1 (1) (0) 0 [some (ev_o 12 a)] [] (S) Q
  refine ev_aload_n (ev_o 12 a) dJ5_getValue_6d5f1_0 rfl rfl ?_
  refine gf_12_0 dJ5_getValue_6d5f1_1 kw_1780 hv hb ?_
  exact ev_areturn (.array .byte) dJ5_getValue_6d5f1_4 rfl rfl (Or.inr ⟨_, rfl⟩) hQ
set_option maxHeartbeats 4000000 in
set_option maxRecDepth 100000 in
theorem c_blen5 {g : ev_G} {S : ev_S} {a : Nat} : ev_Fn g m_J5_length_8abf5 1 [ev_o 12 a] S (some (ev_i (S.1 a 3))) S := by
  intro Q hQ
  refine ev_enter (by decide) rfl rfl (Nat.le_of_ble_eq_true rfl) ?_
  show ev_E g m_J5_length_8abf5 (1) (0) 0 [some (ev_o 12 a)] [] (S) Q
  refine ev_aload_n (ev_o 12 a) dJ5_length_8abf5_0 rfl rfl ?_
  refine gf_12_3 dJ5_length_8abf5_1 kw_1783 ?_
  exact ev_ireturn .int dJ5_length_8abf5_4 rfl rfl hQ
set_option maxHeartbeats 4000000 in
set_option maxRecDepth 100000 in
theorem c_blen {g : ev_G} {S : ev_S} {a : Nat} : ev_Fn g m_J4_length_8abf5 2 [ev_o 12 a] S (some (ev_i (S.1 a 3))) S := by
  intro Q hQ
  refine ev_enter (by decide) rfl rfl (Nat.le_of_ble_eq_true rfl) ?_
  show ev_E g m_J4_length_8abf5 (2) (0) 0 [some (ev_o 12 a)] [] (S) Q
  refine ev_aload_n (ev_o 12 a) dJ4_length_8abf5_0 rfl rfl ?_
  refine ev_callSU m_J5_length_8abf5 1 0 343 12 (n := 0) (a := a) (K := []) [] dJ4_length_8abf5_1 rfl rfl (by decide) (by decide) kw_1858 kw_1853 kw_36 kw_1859 kv_1854 kv_1692 (by decide +kernel) rfl (by decide) (by decide) (by decide) (Nat.le_of_ble_eq_true rfl) c_blen5.cv (fun k z h9 => by cases h9.1) ?_
  rintro o1 z1 ⟨rfl, ez1⟩
  rw [ez1]
  show ev_E g m_J4_length_8abf5 (2) (0) 4 [some (ev_o 12 a)] [ev_i (S.1 a 3)] (S) Q
  exact ev_ireturn .int dJ4_length_8abf5_4 rfl rfl hQ
/-- only Strings change -/
def sb_fs (g : ev_G) (b : Nat) (S z : ev_S) : Prop := S.2.1 <:+ z.2.1 ∧ ev_lw g z.2.1 ∧ ∀ c k, ev_at g S.2.1 k c → c ≠ b → z.1 c = S.1 c ∧ z.2.2 c = S.2.2 c
set_option maxHeartbeats 4000000 in
set_option maxRecDepth 100000 in
theorem c_sini4 {g : ev_G} {S : ev_S} {a b m v : Nat} {t : List Nat} (h : sb_a S a t m v) (hs : (5, b) ∈ S.2.1) : ev_Cv g m_J0_init_db425 4 120 [ev_o 13 b, ev_o 12 a, ev_x 5 0] S (fun o z => o = .inl none ∧ sb_fs g b S z ∧ st_is z b t) := by
  obtain ⟨h0, hv, hb, hc, hn, hl, hm, hf, ht⟩ := h
  refine ev_enter (by decide) rfl rfl (Nat.le_of_ble_eq_true rfl) ?_
  refine ev_lwE (fun hw => ?_)
  show ev_E g m_J0_init_db425 (4) (120) 0 [some (ev_o 13 b), some (ev_o 12 a), some (ev_x 5 0), none, none] [] (S) _
  refine ev_aload_n (ev_o 13 b) dJ0_init_db425_0 rfl rfl ?_
  refine ev_objI dJ0_init_db425_1 kw_1846 kz_55 kz_56 ?_
  refine ev_aload_n (ev_o 12 a) dJ0_init_db425_4 rfl rfl ?_
  refine ev_callU m_J5_getValue_6d5f1 yJ5_getValue_6d5f1 RJ5 1 0 552 12 (n := 0) (a := a) (K := []) [] dJ0_init_db425_5 rfl rfl (by decide) kw_1847 kw_1848 kw_36 kw_1851 kv_1849 kw_1848 kw_1851 (Or.inl kw_1850) ⟨by decide, by decide, by decide +kernel⟩ rfl (by decide) (by decide) (by decide) (Nat.le_of_ble_eq_true rfl) (c_gval hv hb).cv (fun k z h9 => by cases h9.1) ?_
  rintro o1 z1 ⟨rfl, ez1⟩
  rw [ez1]
  clear ez1
  show ev_E g m_J0_init_db425 (4) (120) 8 [some (ev_o 13 b), some (ev_o 12 a), some (ev_x 5 0), none, none] [ev_o (1000 + m) v] (S) _
  refine ev_astore_n dJ0_init_db425_8 rfl (Nat.le_of_ble_eq_true rfl) (ev_hw rfl) ?_
  show ev_E g m_J0_init_db425 (4) (120) 9 [some (ev_o 13 b), some (ev_o 12 a), some (ev_x 5 0), some (ev_o (1000 + m) v), none] [] (S) _
  refine ev_aload_n (ev_o 12 a) dJ0_init_db425_9 rfl rfl ?_
  refine ev_callU m_J4_length_8abf5 yJ5_length_8abf5 RJ5 2 0 549 12 (n := 0) (a := a) (K := []) [] dJ0_init_db425_10 rfl rfl (by decide) kw_1852 kw_1856 kw_37 kw_1857 kv_1854 kw_1853 kw_1859 (Or.inl kw_1855) ⟨by decide, by decide, by decide +kernel⟩ rfl (by decide) (by decide) (by decide) (Nat.le_of_ble_eq_true rfl) c_blen.cv (fun k z h9 => by cases h9.1) ?_
  rintro o1 z1 ⟨rfl, ez1⟩
  rw [ez1]
  clear ez1
  show ev_E g m_J0_init_db425 (4) (120) 13 [some (ev_o 13 b), some (ev_o 12 a), some (ev_x 5 0), some (ev_o (1000 + m) v), none] [ev_i (S.1 a 3)] (S) _
  refine ev_ke (v' := Int32.ofNat t.length) (hn) ?_
  refine ev_istore dJ0_init_db425_13 (Nat.le_of_ble_eq_true rfl) (ev_hw rfl) ?_
  show ev_E g m_J0_init_db425 (4) (120) 15 [some (ev_o 13 b), some (ev_o 12 a), some (ev_x 5 0), some (ev_o (1000 + m) v), some (ev_i (Int32.ofNat t.length))] [] (S) _
  refine ev_aload_n (ev_o 12 a) dJ0_init_db425_15 rfl rfl ?_
  refine ev_callU m_J5_isLatin1_aae02 yJ5_isLatin1_aae02 RJ5 1 0 1047 12 (n := 0) (a := a) (K := []) [] dJ0_init_db425_16 rfl rfl (by decide) kw_1860 kw_1727 kw_36 kw_1730 kv_1728 kw_1727 kw_1730 (Or.inl kw_1729) ⟨by decide, by decide, by decide +kernel⟩ rfl (by decide) (by decide) (by decide) (Nat.le_of_ble_eq_true rfl) (c_lat hc).cv (fun k z h9 => by cases h9.1) ?_
  rintro o9 z9 ⟨rfl, ez9⟩
  rw [ez9]
  clear ez9
  show ev_E g m_J0_init_db425 (4) (120) 19 [some (ev_o 13 b), some (ev_o 12 a), some (ev_x 5 0), some (ev_o (1000 + m) v), some (ev_i (Int32.ofNat t.length))] [ev_i 1] (S) _
  refine ev_if_eq 41 dJ0_init_db425_19 (by decide) (fun h9 => absurd h9 (by decide)) (fun _ => ?_)
  refine ev_aload_n (ev_o 13 b) dJ0_init_db425_22 rfl rfl ?_
  refine ev_iconst (0) dJ0_init_db425_23 rfl ?_
  refine pf_13_1 dJ0_init_db425_24 rfl rfl kw_1881 ?_
  refine ev_aload_n (ev_o 13 b) dJ0_init_db425_27 rfl rfl ?_
  refine ev_aload_n (ev_o (1000 + m) v) dJ0_init_db425_28 rfl rfl ?_
  refine ev_iconst (0) dJ0_init_db425_29 rfl ?_
  refine ev_iload ((Int32.ofNat t.length)) dJ0_init_db425_30 rfl ?_
  have hba : b ≠ a := fun e9 => by have := jb_uniq hw (jb_at5 hs) (e9 ▸ jb_at4 h0); cases this
  have hbv : v ≠ b := fun e9 => by have := jb_uniq hw (jb_at5 hs) (e9 ▸ jb_atB hb); cases this
  have e1 : (ev_up S b 1 0).1 v = S.1 v := va_up_ne _ _ hbv
  have e2 : (ev_up S b 1 0).1 b = upd (S.1 b) 1 0 := va_up_self _ _ _
  refine ev_cS ms_J7_copyOfRange_39247 3 120 [ev_o (1000 + m) v, ev_i 0, ev_i (Int32.ofNat t.length)] [ev_o 13 b] dJ0_init_db425_32 kw_1861 rfl (by decide) (by decide) (Nat.le_of_ble_eq_true rfl) (c_cor (S := ev_up S b 1 0) (jb_atB hb) (by rw [e1]; exact hf) hl hm) ?_ rfl
  rintro o1 z1 ⟨q, rfl, hz1, hz2, hz3⟩
  show ev_E g m_J0_init_db425 (4) (0) 35 [some (ev_o 13 b), some (ev_o 12 a), some (ev_x 5 0), some (ev_o (1000 + m) v), some (ev_i (Int32.ofNat t.length))] [ev_o (1000 + t.length) q, ev_o 13 b] (z1) _
  refine pf_13_0 dJ0_init_db425_35 rfl rfl kw_1880 ?_
  refine ev_goto 97 dJ0_init_db425_38 (by decide) ?_
  refine ev_return dJ0_init_db425_97 rfl ⟨rfl, ⟨hz2.1, hz2.2.1, fun c k hc hk => ?_⟩, ?_, q, ?_, ?_, ?_, fun j hj => ?_⟩
  · have hcb : c ≠ b := hk
    have h9 := hz2.2.2 c k hc
    exact ⟨h9.1.trans (va_up_ne _ _ hcb), (va_up_ne _ _ hcb).trans h9.2⟩
  · exact hz2.1.subset hs
  · show va_up z1.2.2 b (va_up (z1.2.2 b) 0 (some q)) b 0 = some q
    rw [va_up_self, va_up_self]
  · show _ ∈ z1.2.1
    rw [hz1]
    exact List.mem_cons_self
  · show z1.1 b 1 = 0
    rw [(hz2.2.2 b (13, 0) (jb_at5 hs)).1, e2, pk_us]
  · show z1.1 q j = _
    rw [hz3 j hj, e1]
    exact ht j hj
set_option maxHeartbeats 4000000 in
set_option maxRecDepth 100000 in
theorem c_sini {g : ev_G} {S : ev_S} {a b m v : Nat} {t : List Nat} (h : sb_a S a t m v) (hs : (5, b) ∈ S.2.1) : ev_Cv g m_J0_init_81219 5 120 [ev_o 13 b, ev_o 12 a] S (fun o z => o = .inl none ∧ sb_fs g b S z ∧ st_is z b t) := by
  refine ev_enter (by decide) rfl rfl (Nat.le_of_ble_eq_true rfl) ?_
  show ev_E g m_J0_init_81219 (5) (120) 0 [some (ev_o 13 b), some (ev_o 12 a)] [] (S) _
  refine ev_aload_n (ev_o 13 b) dJ0_init_81219_0 rfl rfl ?_
  refine ev_aload_n (ev_o 12 a) dJ0_init_81219_1 rfl rfl ?_
  refine ev_null dJ0_init_81219_2 ?_
  refine ev_callI m_J0_init_db425 4 120 489 13 (n := 2) (a := b) (K := []) [ev_o 12 a, ev_x 5 0] dJ0_init_81219_3 rfl rfl rfl kw_1843 kw_1844 kw_27 kw_1845 ⟨by decide, by decide, by decide +kernel⟩ rfl (by decide) (by decide) (by decide) (Nat.le_of_ble_eq_true rfl) (c_sini4 h hs) (fun k z h9 => by cases h9.1) ?_
  rintro o1 z1 ⟨rfl, f1, h1⟩
  show ev_E g m_J0_init_81219 (5) (0) 6 [some (ev_o 13 b), some (ev_o 12 a)] [] (z1) _
  exact ev_return dJ0_init_81219_6 rfl ⟨rfl, f1, h1⟩
theorem sb_nt {g : ev_G} {S : ev_S} {t9 q a m v : Nat} {t : List Nat} {R : Nat → Nat → Int32} (hq : ev_lw g ((t9, q) :: S.2.1)) (h : sb_a S a t m v) : sb_a (ev_nt S t9 q R) a t m v := by
  obtain ⟨h0, hv, hb, hc, hn, hl, hm, hf, ht⟩ := h
  have e0 := jb_nt1 (R := R) hq (jb_at4 h0)
  have e1 := jb_nt1 (R := R) hq (jb_atB hb)
  exact ⟨List.mem_cons_of_mem _ h0, by rw [e0.2]; exact hv, List.mem_cons_of_mem _ hb, by rw [e0.1]; exact hc, by rw [e0.1]; exact hn, hl, hm, by rw [e1.1]; exact hf, fun j hj => by rw [e1.1]; exact ht j hj⟩
set_option maxHeartbeats 4000000 in
set_option maxRecDepth 100000 in
theorem c_toS {g : ev_G} {S : ev_S} {a m v : Nat} {t : List Nat} (h : sb_a S a t m v) : ev_Cv g m_J4_toString_0e30d 6 121 [ev_o 12 a] S (fun o z => ∃ b, o = .inl (some (ev_o 13 b)) ∧ sb_ol g S z ∧ st_is z b t) := by
  refine ev_enter (by decide) rfl rfl (Nat.le_of_ble_eq_true rfl) ?_
  show ev_E g m_J4_toString_0e30d (6) (121) 0 [some (ev_o 12 a)] [] (S) _
  refine ev_newST dJ4_toString_0e30d_0 kw_1838 kw_1839 kw_27 (by decide) (fun b hb => ?_)
  show ev_E g m_J4_toString_0e30d (6) (120) 3 [some (ev_o 12 a)] [ev_o 13 b] (ev_nt S 5 b (fun _ _ => 0)) _
  refine ev_dup dJ4_toString_0e30d_3 rfl ?_
  refine ev_aload_n (ev_o 12 a) dJ4_toString_0e30d_4 rfl rfl ?_
  refine ev_callI m_J0_init_81219 5 120 137 13 (n := 1) (a := b) (K := [ev_o 13 b]) [ev_o 12 a] dJ4_toString_0e30d_5 rfl rfl rfl kw_1840 kw_1841 kw_27 kw_1842 ⟨by decide, by decide, by decide +kernel⟩ rfl (by decide) (by decide) (by decide) (Nat.le_of_ble_eq_true rfl) (c_sini (sb_nt hb h) List.mem_cons_self) (fun k z h9 => by cases h9.1) ?_
  rintro o1 z1 ⟨rfl, f1, h1⟩
  show ev_E g m_J4_toString_0e30d (6) (0) 8 [some (ev_o 12 a)] [ev_o 13 b] (z1) _
  refine ev_areturn (.object "java/lang/String") dJ4_toString_0e30d_8 rfl rfl (Or.inl ⟨_, rfl⟩) ⟨b, rfl, ⟨(List.suffix_cons _ _).trans f1.1, f1.2.1, fun c k hc => ?_⟩, h1⟩
  have hcb : c ≠ b := by
    have : ¬ (b ≤ c ∧ c < b + 1) := jb_out hb hc
    omega
  have e9 := jb_nt1 (R := fun _ _ => 0) hb hc
  have e8 := f1.2.2 c k (ev_at_up (List.suffix_cons _ _) hc) hcb
  exact ⟨e8.1.trans e9.1, e8.2.trans e9.2⟩
