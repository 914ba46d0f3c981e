/-! ===== constructors: the class's and the reference's, over the world ===== -/
set_option maxHeartbeats 4000000 in
set_option maxRecDepth 100000 in
theorem sg_X9_init_99 {g : ev_G} {S : ev_S} {Q : ev_O → ev_S → Prop} {B : Nat} (b : Nat) (u1 : Int32) (hQ : ((j_ishr (Int32.ofNat (ev_le.getD 0 0)) 0) ≤ u1 → (
    ev_Cv g m_X9_readSetup 7 0 [ev_o 9 b] S (fun o S1 => o = .inl none ∧ (
      ev_Cv g m_X2_copyFrom 4 0 [ev_o 2 (b + 11), ev_o 2 (b + 52)] S1 (fun o S2 => o = .inl none ∧ (
        ∀ S3 : ev_S, S3 = (ev_up S2 (b + 1) 1 0) → (
          Q (.inl none) S3))))))) ∧
  (¬ ((j_ishr (Int32.ofNat (ev_le.getD 0 0)) 0) ≤ u1) → (
    ((u1 < 0) → False) ∧ (
      (¬ (u1 < 0) → ¬ (u1 < (Int32.ofNat (ev_le.getD 0 0))) → False) ∧ (
        (vp_in u1 (ev_le.getD 0 0)) ∧ (
          (narrow .char (.int (j_i2c ((j_byte 0 u1) &&& 255))) = .int (j_i2c ((j_byte 0 u1) &&& 255))) ∧ (
            ev_Cv g m_X8_add 2 0 [ev_o 8 (b + 1), ev_i (j_i2c ((j_byte 0 u1) &&& 255))] S (fun o S4 => o = .inl none ∧ (
              ev_E g m_X9_init 8 0 99 [some (ev_o 9 b), some (ev_i (u1 + 1))] [] S4 Q))))))))) : ev_E g m_X9_init 8 0 99 [some (ev_o 9 b), some (ev_i u1)] [] S Q := by
  refine ev_iload_n (u1) dX9_init_99 rfl ?_
  refine ev_ldc "game 6 40; bishop 0 0 1; bishop 0 0 4; bishop 0 1 0; bishop 1 5 1; bishop 1 5 4; bishop 1 4 5; pass 3 1 1; pass 5 2 0; snow 0 0 4; snow 0 1 9; snow 1 1 2;" 0 dX9_init_100 (List.mem_of_getElem? (i := 0) rfl) (by decide) ?_
  refine ev_fK mv_J0_length_8abf5 2 [] [ev_i u1] dX9_init_102 kw_425 rfl (by decide) (Nat.le_of_ble_eq_true rfl) (sp_J0_length_8abf5 0) ?_ rfl
  refine ev_icmp_ge 127 dX9_init_105 (by decide) (fun c1 => ?_) (fun c1 => ?_)
  · replace hQ := hQ.1 c1
    refine ev_aload_n (ev_o 9 b) dX9_init_127 rfl rfl ?_
    refine ev_cV mv_X9_readSetup 7 0 9 [] [] dX9_init_128 kw_480 rfl (by decide) rfl (by decide) (by decide) (Nat.le_of_ble_eq_true rfl) hQ ?_ rfl
    rintro o S1 ⟨rfl, hQ⟩
    show ev_E g m_X9_init 8 0 131 [some (ev_o 9 b), some (ev_i u1)] [] S1 Q
    refine ev_aload_n (ev_o 9 b) dX9_init_131 rfl rfl ?_
    refine gf_9_3 dX9_init_132 kw_690 ?_
    refine ev_aload_n (ev_o 9 b) dX9_init_135 rfl rfl ?_
    refine gf_9_4 dX9_init_136 kw_691 ?_
    refine ev_cV mv_X2_copyFrom 4 0 2 [ev_o 2 (b + 52)] [] dX9_init_139 kw_653 rfl (by decide) rfl (by decide) (by decide) (Nat.le_of_ble_eq_true rfl) hQ ?_ rfl
    rintro o S2 ⟨rfl, hQ⟩
    show ev_E g m_X9_init 8 0 142 [some (ev_o 9 b), some (ev_i u1)] [] S2 Q
    refine ev_aload_n (ev_o 9 b) dX9_init_142 rfl rfl ?_
    refine gf_9_0 dX9_init_143 kw_687 ?_
    refine ev_fVn mv_X8_clear 1 8 [] [] dX9_init_146 kw_683 rfl (by decide) rfl (by decide) (Nat.le_of_ble_eq_true rfl) (sp_X8_clear (b + 1)) ?_ rfl
    refine ev_sub hQ (fun S3 hS3 hQ => ?_)
    refine ev_E.goal (pc' := 149) (L' := [some (ev_o 9 b), some (ev_i u1)]) (K' := []) (S' := S3) ?_ rfl rfl rfl hS3
    exact ev_return dX9_init_149 rfl hQ
  · replace hQ := hQ.2 c1
    refine ev_aload_n (ev_o 9 b) dX9_init_108 rfl rfl ?_
    refine gf_9_0 dX9_init_109 kw_687 ?_
    refine ev_ldc "game 6 40; bishop 0 0 1; bishop 0 0 4; bishop 0 1 0; bishop 1 5 1; bishop 1 5 4; bishop 1 4 5; pass 3 1 1; pass 5 2 0; snow 0 0 4; snow 0 1 9; snow 1 1 2;" 0 dX9_init_112 (List.mem_of_getElem? (i := 0) rfl) (by decide) ?_
    refine ev_iload_n (u1) dX9_init_114 rfl ?_
    obtain ⟨h1, hQ⟩ := hQ
    obtain ⟨h2, hQ⟩ := hQ
    obtain ⟨h3, hQ⟩ := hQ
    obtain ⟨h4, hQ⟩ := hQ
    refine ev_fK mv_J0_charAt_5068e 4 [ev_i u1] [ev_o 8 (b + 1)] dX9_init_115 kw_435 rfl (by decide) (Nat.le_of_ble_eq_true rfl) (sp_J0_charAt_5068e 0 u1 h1 h2 h3 h4) ?_ rfl
    refine ev_cV mv_X8_add 2 0 8 [ev_i (j_i2c ((j_byte 0 u1) &&& 255))] [] dX9_init_118 kw_473 rfl (by decide) rfl (by decide) (by decide) (Nat.le_of_ble_eq_true rfl) hQ ?_ rfl
    rintro o S4 ⟨rfl, hQ⟩
    show ev_E g m_X9_init 8 0 121 [some (ev_o 9 b), some (ev_i u1)] [] S4 Q
    refine ev_iinc u1 (1) dX9_init_121 rfl (by decide) (ev_hw rfl) ?_
    show ev_E g m_X9_init 8 0 124 [some (ev_o 9 b), some (ev_i (u1 + 1))] [] S4 Q
    refine ev_goto 99 dX9_init_124 (by decide) ?_
    exact hQ

set_option maxHeartbeats 4000000 in
set_option maxRecDepth 100000 in
theorem sg_X10_init_101 {g : ev_G} {S : ev_S} {Q : ev_O → ev_S → Prop} {B : Nat} (a : Nat) (hQ : ev_Cv g m_X10_takesText 8 0 [ev_o 10 a, ev_x 1 27] S (fun o S1 => o = .inl none ∧ (
    Q (.inl none) S1))) : ev_E g m_X10_init 9 0 101 [some (ev_o 10 a)] [] S Q := by
  refine ev_aload_n (ev_o 10 a) dX10_init_101 rfl rfl ?_
  refine ev_ldc "game 6 40; bishop 0 0 1; bishop 0 0 4; bishop 0 1 0; bishop 1 5 1; bishop 1 5 4; bishop 1 4 5; pass 3 1 1; pass 5 2 0; snow 0 0 4; snow 0 1 9; snow 1 1 2;" 27 dX10_init_102 (List.mem_of_getElem? (i := 27) rfl) (by decide) ?_
  refine ev_cV mv_X10_takesText 8 0 10 [ev_x 1 27] [] dX10_init_104 kw_1755 rfl (by decide) rfl (by decide) (by decide) (Nat.le_of_ble_eq_true rfl) hQ ?_ rfl
  rintro o S1 ⟨rfl, hQ⟩
  show ev_E g m_X10_init 9 0 107 [some (ev_o 10 a)] [] S1 Q
  exact ev_return dX10_init_107 rfl hQ
def ct_t9 : ct_T := ((9, 0), [0, 0, 0, 0, 0, 0, 0, 0, 0, 0, 0, -1]) :: (ct_t8 ++ ct_t7 ++ ct_t4 ++ ct_t2 ++ ct_t2 ++ ct_t3 ++ ct_t2 ++ ct_t2)
def ct_t10 : ct_T := ((10, 0), [0, 0, 0, 0, 0, 0, 0, 0, -1, 0, 0, 0, -1]) :: ([((19, 2091), [])] ++ [((19, 2091), [])] ++ [((19, 2091), [])] ++ [((19, 16728), [])] ++ [((19, 4182), [])] ++ [((20, 2), [])] ++ [((19, 800), [])] ++ [((19, 30), [])] ++ [((19, 180), [])] ++ [((19, 500), [])])
theorem ct_l9 : ct_t9.length = 505 := by decide +kernel
theorem ct_k9 : ct_t9.map Prod.fst = ev_kl.take 505 := by decide +kernel
theorem ct_k10 : ct_t10.map Prod.fst = (ev_kl.drop 505).take 11 := by decide +kernel
def ct_row (tl : ct_T) (i : Nat) : Nat → Int32 := ct_r (tl.getD i ((99, 0), [])).2
theorem ct_ws_P {g : ev_G} {S : ev_S} {H : Heap} (h : ∀ o, o < ev_n g → va_at (ev_D g) ev_cl (ev_b g + o, ev_ent g S (ev_b g + o)) H) : va_P (ev_D g) ev_cl (ev_ws g S) H := by
  intro k q hk
  have hm := List.mem_of_getElem? hk
  simp only [ev_ws, va_pl, List.mem_map] at hm
  obtain ⟨a, ha, rfl⟩ := hm
  obtain ⟨o, rfl, ho⟩ := ev_al_mem.mp ha
  exact h o ho
theorem ct_ws_at {g : ev_G} {S : ev_S} {H : Heap} (h : va_P (ev_D g) ev_cl (ev_ws g S) H) : ∀ o, o < ev_n g → va_at (ev_D g) ev_cl (ev_b g + o, ev_ent g S (ev_b g + o)) H := by
  intro o ho
  obtain ⟨q, hq⟩ := va_pl_get (X := []) (f := ev_ent g S) (ev_al_mem.mpr ⟨o, rfl, ho⟩)
  rw [List.nil_append] at hq
  exact h q _ hq
/-- a thing of a tree that lies n0 behind the first -/
theorem ct_ent {g : ev_G} {S : ev_S} {tl : ct_T} {H : Heap} {n0 : Nat} (hk : tl.map Prod.fst = (ev_kl.drop n0).take tl.length) (hS : ∀ i, i < tl.length → S.1 (ev_b g + n0 + i) = ct_row tl i) (h2 : S.2 = (0, 0)) (h : ct_P g tl (ev_b g + n0) H) : ∀ o, o < tl.length → va_at (ev_D g) ev_cl (ev_b g + (n0 + o), ev_ent g S (ev_b g + (n0 + o))) H := by
  intro o ho
  have ht : tl[o]? = some tl[o] := List.getElem?_eq_getElem ho
  have h1 := h o _ ht
  have hkd : ev_kd (n0 + o) = (tl[o]).1 := by
    have h3 : ((ev_kl.drop n0).take tl.length)[o]? = ev_kl[n0 + o]? := by rw [List.getElem?_take, if_pos ho, List.getElem?_drop]
    have h4 : ev_kl[n0 + o]? = some (tl[o]).1 := by rw [← h3, ← hk, List.getElem?_map, ht]; rfl
    unfold ev_kd
    rw [List.getD_eq_getElem?_getD, h4]
    rfl
  have hr : S.1 (ev_b g + n0 + o) = ct_r (tl[o]).2 := by rw [hS o ho, ct_row, List.getD_eq_getElem?_getD, ht]; rfl
  rw [← Nat.add_assoc, ev_ent, show ev_b g + n0 + o - ev_b g = n0 + o by omega, hkd, hr, h2]
  exact h1
/-- how a constructor over the world ends -/
def ct_Qw (g : ev_G) (R : ev_S → Prop) : Array Value → State → Outcome → State → Prop := fun _ st o t => o = .returned none ∧ (∃ z, R z ∧ va_P (ev_D g) ev_cl (ev_ws g z) t.heap) ∧ va_F (ev_A g) st t
theorem ct_toE {g : ev_G} {μ : ev_M} {a k d mc ms pc : Nat} {Ex : Heap → Prop} {L : List (Nat × Value)} {fs : List Value} {tl : ct_T} {cells slots : Nat} {S : ev_S} {R : ev_S → Prop} {Lv : List (Option ev_V)} (hc : cells ≤ mc) (hs : slots ≤ ms) (hrt : ev_rt μ = none) (hhh : ev_hh μ = [])
    (hL : ∀ ls, lv_has ls (ev_ml μ) L → ev_L g Lv ls)
    (hW : ∀ (H0 H : Heap) (locs : List Loc), Ex H0 → H0.size = a + 1 → va_S (fun q => a ≤ q) H0 H locs → va_at (ev_D g) ev_cl (a, .inr (k, fs)) H → ct_P g tl (a + 1) H → va_P (ev_D g) ev_cl (ev_ws g S) H)
    (h : ev_E g μ d 0 pc Lv [] S (fun o z => o = .inl none ∧ R z)) : ct_E g μ a k d mc ms Ex (ct_Qw g R) (ev_A g) pc L [] fs tl cells slots := by
  intro l p e R' s m args below meth c H locs ls X z o t S0 hl
  have hab : ev_b g ≤ a := X.2.1.2.2.1
  have hsz : s.heap.size = a + 1 := X.2.1.2.2.2.1
  have hX : ev_X g μ d 0 S l p R' s m args meth c H locs cells slots mc ms :=
    ⟨⟨X.1.1, X.1.2.1, by rw [X.1.2.2.1, hrt], X.1.2.2.2.1, X.1.2.2.2.2.1, X.1.2.2.2.2.2.1, by rw [X.1.2.2.2.2.2.2.1, hhh]; rfl, X.1.2.2.2.2.2.2.2.1⟩, ⟨X.2.1.1, X.2.1.2.1.1, X.2.1.2.1.2.1, by omega⟩, ⟨X.2.2.1.1, X.2.2.1.2.1, X.2.2.1.2.2.1, X.2.2.1.2.2.2, by omega, by omega⟩, hW s.heap H locs X.2.1.2.2.2.2 hsz S0 o t, ct_S hab S0⟩
  intro T hT Y
  obtain ⟨t2, a1, o2, b1, b2, b3⟩ := h l p e R' s m args below meth c H locs cells slots mc ms ls hX (hL ls hl) hl.1 (fun v hv => by cases hv) T hT Y
  refine ⟨t2, a1, o2, b1, b2, ?_⟩
  rcases b3 with ⟨⟨ov, S', c1, c2, ⟨c3, c4⟩, c5, c6⟩, b4⟩ | ⟨q, e1, E, ce, L', ⟨k9, S', d1, d2, ⟨d3, d4⟩, d5⟩, e2⟩
  · have hov : ov = none := by injection c3
    subst hov
    exact ⟨⟨c1, ⟨S', c4, c5⟩, c6⟩, b4⟩
  · cases d3
theorem ct_has {g : ev_G} {ls : Array Slot} {n : Nat} {L : List (Nat × Value)} {Lv : List (Option ev_V)} (h : lv_has ls n L) (hn : Lv.length = n) (hv : ∀ (i : Nat) (v : ev_V), Lv[i]? = some (some v) → (i, ev_c g v) ∈ L ∧ ev_ok g v) : ev_L g Lv ls :=
  ⟨by rw [h.1, hn], h.2.1, fun i v hi => ⟨h.2.2 _ (hv i v hi).1, (hv i v hi).2⟩⟩
