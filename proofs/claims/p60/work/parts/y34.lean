/-! ===== the class's constructor, over the world ===== -/
set_option maxHeartbeats 4000000 in
set_option maxRecDepth 100000 in
theorem sg_X9_init_99 {g : ev_G} {S : ev_S} {Q : ev_O → ev_S → Prop} (b : Nat) (u1 : Int32) (hQ : ((j_ishr (Int32.ofNat (ev_le.getD 0 0)) 0) ≤ u1 → (
    ev_Cv g m_X9_readSetup 7 0 [ev_o 9 b] S (fun o S1 => o = .inl none ∧ (
      ev_Cv g m_X2_copyFrom 4 0 [ev_o 2 (b + 11), ev_o 2 (b + 52)] S1 (fun o S2 => o = .inl none ∧ (
        ∀ S3 : ev_S, S3 = (ev_up S2 (b + 1) 1 0) → (
          Q (.inl none) S3))))))) ∧
  (¬ ((j_ishr (Int32.ofNat (ev_le.getD 0 0)) 0) ≤ u1) → (
    ((u1 < 0) → False) ∧ (
      (¬ (u1 < 0) → ¬ (u1 < (Int32.ofNat (ev_le.getD 0 0))) → False) ∧ (
        (vp_in u1 (ev_le.getD 0 0)) ∧ (
          (narrow .char (.int (j_i2c ((j_byte 0 u1) &&& 255))) = .int (j_i2c ((j_byte 0 u1) &&& 255))) ∧ (
            ev_Cv g m_X8_add 2 0 [ev_o 8 (b + 1), ev_i (j_i2c ((j_byte 0 u1) &&& 255))] S (fun o S4 => o = .inl none ∧ (
              ev_E g m_X9_init 8 0 99 [some (ev_o 9 b), some (ev_i (u1 + 1))] [] S4 Q))))))))) : ev_E g m_X9_init 8 0 99 [some (ev_o 9 b), some (ev_i u1)] [] S Q := by
  refine ev_iload_n (u1) dX9_init_99 rfl ?_
  refine ev_ldc "game 6 40; bishop 0 0 1; bishop 0 0 4; bishop 0 1 0; bishop 1 5 1; bishop 1 5 4; bishop 1 4 5; pass 3 1 1; pass 5 2 0; snow 0 0 4; snow 0 1 9; snow 1 1 2;" 0 dX9_init_100 (List.mem_of_getElem? (i := 0) rfl) (by decide) ?_
  refine ev_fK mv_J0_length_8abf5 2 [] [ev_i u1] dX9_init_102 kw_336 rfl (by decide) (Nat.le_of_ble_eq_true rfl) (sp_J0_length_8abf5 0) ?_ rfl
  refine ev_icmp_ge 127 dX9_init_105 (by decide) (fun c1 => ?_) (fun c1 => ?_)
  · replace hQ := hQ.1 c1
    refine ev_aload_n (ev_o 9 b) dX9_init_127 rfl rfl ?_
    refine ev_cV mv_X9_readSetup 7 0 9 [] [] dX9_init_128 kw_391 rfl (by decide) rfl (by decide) (by decide) (Nat.le_of_ble_eq_true rfl) hQ ?_ rfl
    rintro o S1 ⟨rfl, hQ⟩
    show ev_E g m_X9_init 8 0 131 [some (ev_o 9 b), some (ev_i u1)] [] S1 Q
    refine ev_aload_n (ev_o 9 b) dX9_init_131 rfl rfl ?_
    refine gf_9_3 dX9_init_132 kw_601 ?_
    refine ev_aload_n (ev_o 9 b) dX9_init_135 rfl rfl ?_
    refine gf_9_4 dX9_init_136 kw_602 ?_
    refine ev_cV mv_X2_copyFrom 4 0 2 [ev_o 2 (b + 52)] [] dX9_init_139 kw_564 rfl (by decide) rfl (by decide) (by decide) (Nat.le_of_ble_eq_true rfl) hQ ?_ rfl
    rintro o S2 ⟨rfl, hQ⟩
    show ev_E g m_X9_init 8 0 142 [some (ev_o 9 b), some (ev_i u1)] [] S2 Q
    refine ev_aload_n (ev_o 9 b) dX9_init_142 rfl rfl ?_
    refine gf_9_0 dX9_init_143 kw_598 ?_
    refine ev_fVn mv_X8_clear 1 8 [] [] dX9_init_146 kw_594 rfl (by decide) rfl (by decide) (Nat.le_of_ble_eq_true rfl) (sp_X8_clear (b + 1)) ?_ rfl
    refine ev_sub hQ (fun S3 hS3 hQ => ?_)
    refine ev_E.goal (pc' := 149) (L' := [some (ev_o 9 b), some (ev_i u1)]) (K' := []) (S' := S3) ?_ rfl rfl rfl hS3
    exact ev_return dX9_init_149 rfl hQ
  · replace hQ := hQ.2 c1
    refine ev_aload_n (ev_o 9 b) dX9_init_108 rfl rfl ?_
    refine gf_9_0 dX9_init_109 kw_598 ?_
    refine ev_ldc "game 6 40; bishop 0 0 1; bishop 0 0 4; bishop 0 1 0; bishop 1 5 1; bishop 1 5 4; bishop 1 4 5; pass 3 1 1; pass 5 2 0; snow 0 0 4; snow 0 1 9; snow 1 1 2;" 0 dX9_init_112 (List.mem_of_getElem? (i := 0) rfl) (by decide) ?_
    refine ev_iload_n (u1) dX9_init_114 rfl ?_
    obtain ⟨h1, hQ⟩ := hQ
    obtain ⟨h2, hQ⟩ := hQ
    obtain ⟨h3, hQ⟩ := hQ
    obtain ⟨h4, hQ⟩ := hQ
    refine ev_fK mv_J0_charAt_5068e 4 [ev_i u1] [ev_o 8 (b + 1)] dX9_init_115 kw_346 rfl (by decide) (Nat.le_of_ble_eq_true rfl) (sp_J0_charAt_5068e 0 u1 h1 h2 h3 h4) ?_ rfl
    refine ev_cV mv_X8_add 2 0 8 [ev_i (j_i2c ((j_byte 0 u1) &&& 255))] [] dX9_init_118 kw_384 rfl (by decide) rfl (by decide) (by decide) (Nat.le_of_ble_eq_true rfl) hQ ?_ rfl
    rintro o S4 ⟨rfl, hQ⟩
    show ev_E g m_X9_init 8 0 121 [some (ev_o 9 b), some (ev_i u1)] [] S4 Q
    refine ev_iinc u1 (1) dX9_init_121 rfl (by decide) (ev_hw rfl) ?_
    show ev_E g m_X9_init 8 0 124 [some (ev_o 9 b), some (ev_i (u1 + 1))] [] S4 Q
    refine ev_goto 99 dX9_init_124 (by decide) ?_
    exact hQ
def ct_t9 : ct_T := ((9, 0), [0, 0, 0, 0, 0, 0, 0, 0, 0, 0, 0, -1]) :: (ct_t8 ++ ct_t7 ++ ct_t4 ++ ct_t2 ++ ct_t2 ++ ct_t3 ++ ct_t2 ++ ct_t2)
theorem ct_l9 : ct_t9.length = 505 := by decide +kernel
theorem ct_k9 : ct_t9.map Prod.fst = ev_kl.take 505 := by decide +kernel
/-- nothing was made yet -/
abbrev ev_s0 : ev_Y × (Nat → Nat → Option Nat) := ([], fun _ _ => none)
theorem ev_lw0 {g : ev_G} : ev_lw g [] := ⟨(fun q hq => by cases hq), List.Pairwise.nil⟩
theorem ct_ent9 {g : ev_G} {S : ev_S} {H : Heap} (hS : ∀ i, S.1 (ev_b g + i) = ct_row ct_t9 i) (h2 : S.2 = ev_s0) (h : ct_P g ct_t9 (ev_b g) H) : va_P (ev_D g) ev_cl (ev_ws g S) H := by
  refine ev_P_iff.mpr (fun x hx => ?_)
  rw [h2] at hx
  rcases ev_mem_al.mp hx with ⟨o, ho, rfl⟩ | ⟨y, hy, -⟩
  · have ho' : o < ct_t9.length := by rw [ct_l9]; exact ho
    have ht : ct_t9[o]? = some ct_t9[o] := List.getElem?_eq_getElem ho'
    have h1 := h o _ ht
    have hkd : ev_kd o = (ct_t9[o]).1 := by
      have h3 : (ev_kl.take 505)[o]? = ev_kl[o]? := by rw [List.getElem?_take, if_pos ho]
      have h4 : ev_kl[o]? = some (ct_t9[o]).1 := by rw [← h3, ← ct_k9, List.getElem?_map, ht]; rfl
      unfold ev_kd
      rw [List.getD_eq_getElem?_getD, h4]
      rfl
    have hr : S.1 (ev_b g + o) = ct_r (ct_t9[o]).2 := by rw [hS o, ct_row, List.getD_eq_getElem?_getD, ht]; rfl
    show va_at (ev_D g) ev_cl (ev_b g + o, ev_en g (ev_kd o) (S.1 (ev_b g + o)) (S.2.2 (ev_b g + o)) (ev_b g + o)) H
    rw [hkd, hr, h2]
    exact h1
  · cases hy
/-- how a constructor over the world ends -/
def ct_Qw (g : ev_G) (R : ev_S → Prop) : Array Value → State → Outcome → State → Prop := fun _ st o t => o = .returned none ∧ (∃ z, R z ∧ va_P (ev_D g) ev_cl (ev_ws g z) t.heap) ∧ va_F (ev_A g) st t
theorem ct_toE {g : ev_G} {μ : ev_M} {a k d mc ms pc : Nat} {Ex : Heap → Prop} {L : List (Nat × Value)} {fs : List Value} {tl : ct_T} {cells slots : Nat} {S : ev_S} {R : ev_S → Prop} {Lv : List (Option ev_V)} (hc : cells ≤ mc) (hs : slots ≤ ms) (hrt : ev_rt μ = none) (hhh : ev_hh μ = []) (hnm : (ev_mn μ).name = "<init>") (hlw : ev_lw g S.2.1)
    (hL : ∀ ls, lv_has ls (ev_ml μ) L → ev_L g S.2.1 Lv ls)
    (hW : ∀ (H : Heap), va_at (ev_D g) ev_cl (a, .inr (k, fs)) H → ct_P g tl (a + 1) H → va_P (ev_D g) ev_cl (ev_ws g S) H)
    (h : ev_E g μ d 0 pc Lv [] S (fun o z => o = .inl none ∧ R z)) : ct_E g μ a k d mc ms Ex (ct_Qw g R) (ev_A g) pc L [] fs tl cells slots := by
  intro l p e R' s m args below meth c H locs ls X z o t S0 hl
  have hab : ev_b g ≤ a := X.2.1.2.2.1
  have hsz : s.heap.size = a + 1 := X.2.1.2.2.2.1
  have hX : ev_X g μ d 0 S l p R' s m args meth c H locs cells slots mc ms S.2.1 :=
    ⟨⟨X.1.1, X.1.2.1, by rw [X.1.2.2.1, hrt], X.1.2.2.2.1, X.1.2.2.2.2.1, X.1.2.2.2.2.2.1, by rw [X.1.2.2.2.2.2.2.1, hhh]; rfl, X.1.2.2.2.2.2.2.2.1⟩, ⟨X.2.1.1, X.2.1.2.1.1, X.2.1.2.1.2.1, by omega⟩, ⟨X.2.2.1.1, X.2.2.1.2.1, X.2.2.1.2.2.1, X.2.2.1.2.2.2, by omega, by omega, List.suffix_refl _, hlw, X.1.2.2.2.2.2.2.2.2.trans hnm.symm⟩, hW H o t, ct_S hab S0⟩
  intro T hT Y
  obtain ⟨t2, a1, o2, b1, b2, b3⟩ := h l p e R' s m args below meth c H locs cells slots mc ms S.2.1 ls hX (hL ls hl) hl.1 (fun v hv => by cases hv) T hT Y
  refine ⟨t2, a1, o2, b1, b2, ?_⟩
  rcases b3 with ⟨⟨ov, S', c1, c2, ⟨c3, c4⟩, c5, c6, c7, c8⟩, b4⟩ | ⟨q, e1, E, ce, L', ⟨k9, S', d1, d2, ⟨d3, d4⟩, d5⟩, e2⟩
  · have hov : ov = none := by injection c3
    subst hov
    exact ⟨⟨c1, ⟨S', c4, c5⟩, c6⟩, b4⟩
  · cases d3
theorem ct_has {g : ev_G} {Λ : ev_Y} {ls : Array Slot} {n : Nat} {L : List (Nat × Value)} {Lv : List (Option ev_V)} (h : lv_has ls n L) (hn : Lv.length = n) (hv : ∀ (i : Nat) (v : ev_V), Lv[i]? = some (some v) → (i, ev_c g v) ∈ L ∧ ev_ok g Λ v) : ev_L g Λ Lv ls :=
  ⟨by rw [h.1, hn], h.2.1, fun i v hi => ⟨h.2.2 _ (hv i v hi).1, (hv i v hi).2⟩⟩
/-- the row of a game with no letters yet, and what else is new -/
def R9 (b : Nat) (r0 : Nat → Int32) (z : ev_S) : Prop := z.2 = ev_s0 ∧ q_any z.1 (b + 11) r0 ∧ q_sh z.1 (b + 52) ∧ (∀ R, q_his z.1 (b + 93) R 0) ∧ (∀ s, s < 2 → q_sh z.1 (b + 423 + 41 * s)) ∧ (z.1 b 8 = 0 ∧ z.1 b 9 = 0 ∧ z.1 b 10 = 0 ∧ z.1 b 11 = -1) ∧ z.1 (b + 1) 1 = 0 ∧ z.1 (b + 9) 1 = 0
theorem x9_len : j_ishr (Int32.ofNat (ev_le.getD 0 0)) 0 = Int32.ofNat 154 := by decide
theorem x9_feed {g : ev_G} {b : Nat} {Q : ev_O → ev_S → Prop} : ∀ (k i : Nat) (S : ev_S), i + k = 154 → S.1 (b + 1) 1 = Int32.ofNat i → (∀ j, j < i → S.1 (b + 2) j = tx_0 j) →
    (∀ z : ev_S, z.2 = S.2 → (∀ q, q ≠ b + 1 → q ≠ b + 2 → z.1 q = S.1 q) → z.1 (b + 1) 1 = Int32.ofNat 154 → (∀ j, j < 154 → z.1 (b + 2) j = tx_0 j) →
      ev_Cv g m_X9_readSetup 7 0 [ev_o 9 b] z (fun o S1 => o = .inl none ∧ (ev_Cv g m_X2_copyFrom 4 0 [ev_o 2 (b + 11), ev_o 2 (b + 52)] S1 (fun o S2 => o = .inl none ∧ (∀ S3 : ev_S, S3 = (ev_up S2 (b + 1) 1 0) → (Q (.inl none) S3)))))) →
    ev_E g m_X9_init 8 0 99 [some (ev_o 9 b), some (ev_i (Int32.ofNat i))] [] S Q := by
  intro k
  have e800 : (800 : Int32) = Int32.ofNat 800 := rfl
  have e0 : (0 : Int32) = Int32.ofNat 0 := rfl
  induction k with
  | zero =>
    intro i S hi h1 hT hk
    refine sg_X9_init_99 b _ (j_pos (by rw [x9_len, n_le (by omega) (by omega)] <;> omega) ?_)
    have : i = 154 := by omega
    subst this
    exact hk S rfl (fun q _ _ => rfl) h1 hT
  | succ k ih =>
    intro i S hi h1 hT hk
    have hb := tx_byte (k := 0) rfl (i := i) (by omega)
    refine sg_X9_init_99 b _ (j_neg (by rw [x9_len, n_le (by omega) (by omega)] <;> omega) ⟨fun h => ?_, fun _ h => ?_, (n_vp (show i < 154 by omega) (by omega)).mpr trivial, hb.2, ?_⟩)
    · rw [e0, n_lt (by omega) (by omega)] at h; omega
    · refine h ?_
      show Int32.ofNat i < Int32.ofNat 154
      rw [n_lt (by omega) (by omega)]; omega
    · rw [hb.1]
      refine sg_X8_add_0 (b + 1) _ (j_neg (by rw [h1, e800, n_le (by omega) (by omega)] <;> omega) (fun S1 e1 S2 e2 => ⟨rfl, ?_⟩))
      rw [h1, a_put (by omega) (by omega)] at e1
      have e1' : S1 = ev_up S (b + 2) i (tx_0 i) := e1
      have s1 : S1.1 (b + 1) 1 = Int32.ofNat i := by rw [e1', m_r (by omega)]; exact h1
      rw [s1, n_inc] at e2
      rw [n_inc]
      refine ih (i + 1) S2 (by omega) (by rw [e2, m_s]) (fun j hj => ?_) (fun z z1 z2 z3 z4 => hk z (by rw [z1, e2, e1']; rfl) (fun q q1 q2 => by rw [z2 q q1 q2, e2, m_r q1, e1', m_r q2]) z3 z4)
      rw [e2, m_r (by omega), e1']
      by_cases hji : j = i
      · rw [hji, m_s]
      · rw [m_k hji]
        exact hT j (by omega)
theorem x9_end {g : ev_G} {S : ev_S} {b : Nat} {r0 : Nat → Int32} (hp : p_set (ct_r []) tx_0 154 = .inr r0) (h2 : S.2 = ev_s0) (h1 : S.1 (b + 1) 1 = 0) (hs : q_sh S.1 (b + 52)) (hg : q_sh S.1 (b + 11)) (hh : ∀ R, q_his S.1 (b + 93) R 0) (hl : ∀ s, s < 2 → q_sh S.1 (b + 423 + 41 * s)) (hf : S.1 b 8 = 0 ∧ S.1 b 9 = 0 ∧ S.1 b 10 = 0 ∧ S.1 b 11 = -1) (ho : S.1 (b + 9) 1 = 0) :
    ev_E g m_X9_init 8 0 97 [some (ev_o 9 b), none] [] S (fun o z => o = .inl none ∧ R9 b r0 z) := by
  refine ev_iconst 0 dX9_init_97 (by decide) ?_
  refine ev_istore_n (k := 1) dX9_init_98 (show 1 < 2 from by decide) (ev_hw rfl) ?_
  refine x9_feed 154 0 S rfl h1 (fun j hj => absurd hj (Nat.not_lt_zero j)) (fun z z2 zq z1 zT => ?_)
  refine x_rset (A := ct_r []) (T := tx_0) (n := 154) (by omega) z1 zT ⟨by rw [zq _ (by omega) (by omega)]; exact hs.1, by rw [zq _ (by omega) (by omega)]; exact hs.2⟩ ⟨fun c p hc => ?_, fun r hr N lim np hi hnp y hy y7 y8 yg => ⟨rfl, ?_⟩⟩
  · rw [hp] at hc; cases hc
  rw [hp] at hr
  cases hr
  obtain ⟨hI, hk⟩ := i_su_IG hi
  have y11 : ∀ q, q ≠ b + 1 → q ≠ b + 2 → (q < b + 52 ∨ b + 88 ≤ q) → y.1 q = S.1 q := fun q q1 q2 q3 => (hy.2 q q1 q3).trans (zq q q1 q2)
  refine g_copied (a := b + 11) (b := b + 52) (by omega) hI (by rw [y11 _ (by omega) (by omega) (by omega)]; exact hg.1) (by rw [y11 _ (by omega) (by omega) (by omega)]; exact hg.2) yg (fun w w1 w2 w3 w4 => ⟨rfl, fun S3 e3 => ⟨rfl, ?_⟩⟩)
  have wq : ∀ q, q ≠ b + 1 → S3.1 q = w.1 q := fun q q1 => by rw [e3, m_r q1]
  have far : ∀ q, q ≠ b + 1 → q ≠ b + 2 → (q < b + 11 ∨ b + 88 ≤ q) → S3.1 q = S.1 q := fun q q1 q2 q3 => (wq q q1).trans ((w1.2 q (by omega)).trans (y11 q q1 q2 (by omega)))
  have hs52 := q_sh_gm yg
  refine ⟨by rw [e3]; exact w1.1.trans (hy.1.trans (z2.trans h2)), ⟨N, lim, np, 0, 0, [], hI, by omega, by omega, q_gm_frame (M := w.1) (fun q h1 h2 => wq q (by omega)) w4, hk⟩, ⟨?_, ?_⟩, fun R => w_his_fr (M := S.1) (fun q q1 q2 => far q (by omega) (by omega) (by omega)) (hh R), fun s hs => ?_, ⟨?_, ?_, ?_, ?_⟩, by rw [e3, m_s], ?_⟩
  · rw [wq _ (by omega), w1.2 _ (by omega)]; exact hs52.1
  · rw [wq _ (by omega), w1.2 _ (by omega)]; exact hs52.2
  · have := hl s hs
    exact ⟨by rw [far _ (by omega) (by omega) (by omega)]; exact this.1, by rw [far _ (by omega) (by omega) (by omega)]; exact this.2⟩
  · rw [far _ (by omega) (by omega) (by omega)]; exact hf.1
  · rw [far _ (by omega) (by omega) (by omega)]; exact hf.2.1
  · rw [far _ (by omega) (by omega) (by omega)]; exact hf.2.2.1
  · rw [far _ (by omega) (by omega) (by omega)]; exact hf.2.2.2
  · rw [far _ (by omega) (by omega) (by omega)]; exact ho
/-! what is new -/
theorem ct_sh9 : ∀ i, i < 8 → ct_row ct_t9 (93 + 2 + 41 * i + 1) 0 = 0 ∧ ct_row ct_t9 (93 + 2 + 41 * i + 10) 0 = 1 := by decide +kernel
theorem ct_shs : ∀ s, s < 2 → ct_row ct_t9 (423 + 41 * s + 1) 0 = 0 ∧ ct_row ct_t9 (423 + 41 * s + 10) 0 = 1 := by decide +kernel
theorem ct_sh0 : (ct_row ct_t9 (11 + 1) 0 = 0 ∧ ct_row ct_t9 (11 + 10) 0 = 1) ∧ (ct_row ct_t9 (52 + 1) 0 = 0 ∧ ct_row ct_t9 (52 + 10) 0 = 1) := by decide +kernel
theorem ct_r9 : (ct_row ct_t9 0 8 = 0 ∧ ct_row ct_t9 0 9 = 0 ∧ ct_row ct_t9 0 10 = 0 ∧ ct_row ct_t9 0 11 = -1) ∧ ct_row ct_t9 1 1 = 0 ∧ ct_row ct_t9 9 1 = 0 ∧ ct_row ct_t9 93 1 = 0 ∧ ct_row ct_t9 93 2 = 0 := by decide +kernel
theorem x9_new {g : ev_G} {S : ev_S} {b : Nat} {r0 : Nat → Int32} (hp : p_set (ct_r []) tx_0 154 = .inr r0) (h2 : S.2 = ev_s0) (hM : ∀ i, S.1 (b + i) = ct_row ct_t9 i) : ev_E g m_X9_init 8 0 97 [some (ev_o 9 b), none] [] S (fun o z => o = .inl none ∧ R9 b r0 z) := by
  have hM0 : S.1 b = ct_row ct_t9 0 := hM 0
  refine x9_end hp h2 (by rw [hM]; exact ct_r9.2.1) ⟨by rw [Nat.add_assoc, hM]; exact ct_sh0.2.1, by rw [Nat.add_assoc, hM]; exact ct_sh0.2.2⟩ ⟨by rw [Nat.add_assoc, hM]; exact ct_sh0.1.1, by rw [Nat.add_assoc, hM]; exact ct_sh0.1.2⟩ (fun R => ⟨?_, by omega, 0, by omega, ?_, fun i hi => ⟨?_, ?_⟩, fun i hi => absurd hi (Nat.not_lt_zero i)⟩) (fun s hs => ⟨?_, ?_⟩) ⟨?_, ?_, ?_, ?_⟩ (by rw [hM]; exact ct_r9.2.2.1)
  · rw [hM]; exact ct_r9.2.2.2.1
  · rw [hM]; exact ct_r9.2.2.2.2
  · rw [show b + 93 + 2 + 41 * i + 1 = b + (93 + 2 + 41 * i + 1) by omega, hM]; exact (ct_sh9 i hi).1
  · rw [show b + 93 + 2 + 41 * i + 10 = b + (93 + 2 + 41 * i + 10) by omega, hM]; exact (ct_sh9 i hi).2
  · rw [show b + 423 + 41 * s + 1 = b + (423 + 41 * s + 1) by omega, hM]; exact (ct_shs s hs).1
  · rw [show b + 423 + 41 * s + 10 = b + (423 + 41 * s + 10) by omega, hM]; exact (ct_shs s hs).2
  · rw [hM0]; exact ct_r9.1.1
  · rw [hM0]; exact ct_r9.1.2.1
  · rw [hM0]; exact ct_r9.1.2.2.1
  · rw [hM0]; exact ct_r9.1.2.2.2
theorem c_ct9 {g : ev_G} {r0 : Nat → Int32} (a : Nat) (ha : a = ev_b g) (hp : p_set (ct_r []) tx_0 154 = .inr r0) : ct_Met g m_X9_init 9 a 8 504 25772 (fun _ => True) ct_f9 [] (ct_Qw g (R9 a r0)) (ev_A g) := by
  refine ct_enter (L := [(0, .ref a)]) (by decide) rfl rfl rfl rfl rfl (Nat.le_of_ble_eq_true rfl) (fun q h => by rw [ha] at h; exact h) ?_
  refine ct_aload0 dX9_init_0 ?_
  refine ct_super dX9_init_1 kz_54 kz_55 kz_56 ?_
  refine ct_aload0 dX9_init_4 ?_
  refine ct_child0 ci_8 8 0 1 800 1 ct_f8 ct_t8 tyX8 dX9_init_5 dX9_init_8 dX9_init_9 rfl in_8 tyX8_ok ct_d8 kz_57 kz_58 kz_18 (Or.inl ⟨"MulePostBishops", List.mem_of_getElem? (i := 0) (by decide +kernel)⟩) c_ct8 (by simp only [List.length_append, List.length_cons, List.length_nil, ct_l0, ct_l1, ct_l5, ct_l6, ct_l2, ct_l7, ct_l4, ct_l8, ct_l3, ct_l10]) (Nat.le_of_ble_eq_true rfl) (Nat.le_of_ble_eq_true rfl) ct_l8 (Nat.le_of_ble_eq_true rfl) (Nat.le_of_ble_eq_true rfl) ?_
  refine ct_putF 0 tyX9 [.ref (a + 1), .null, .null, .null, .null, .null, .null, .null, .int 0, .int 0, .int 0, .int 0] dX9_init_12 rfl in_9 tyX9_ok nmX9 (by decide) kz_598 rfl rfl rfl rfl (Nat.le_of_ble_eq_true rfl) rfl ?_
  refine ct_aload0 dX9_init_15 ?_
  refine ct_child0 ci_7 7 0 5 542 3 ct_f7 ct_t7 tyX7 dX9_init_16 dX9_init_19 dX9_init_20 rfl in_7 tyX7_ok ct_d7 kz_92 kz_93 kz_19 (Or.inl ⟨"MulePostBishops", List.mem_of_getElem? (i := 1) (by decide +kernel)⟩) c_ct7 (by simp only [List.length_append, List.length_cons, List.length_nil, ct_l0, ct_l1, ct_l5, ct_l6, ct_l2, ct_l7, ct_l4, ct_l8, ct_l3, ct_l10]) (Nat.le_of_ble_eq_true rfl) (Nat.le_of_ble_eq_true rfl) ct_l7 (Nat.le_of_ble_eq_true rfl) (Nat.le_of_ble_eq_true rfl) ?_
  refine ct_putF 1 tyX9 [.ref (a + 1), .ref (a + 3), .null, .null, .null, .null, .null, .null, .int 0, .int 0, .int 0, .int 0] dX9_init_23 rfl in_9 tyX9_ok nmX9 (by decide) kz_599 rfl rfl rfl rfl (Nat.le_of_ble_eq_true rfl) rfl ?_
  refine ct_aload0 dX9_init_26 ?_
  refine ct_child0 ci_4 4 0 1 400 9 ct_f4 ct_t4 tyX4 dX9_init_27 dX9_init_30 dX9_init_31 rfl in_4 tyX4_ok ct_d4 kz_120 kz_121 kz_20 (Or.inl ⟨"MulePostBishops", List.mem_of_getElem? (i := 2) (by decide +kernel)⟩) c_ct4 (by simp only [List.length_append, List.length_cons, List.length_nil, ct_l0, ct_l1, ct_l5, ct_l6, ct_l2, ct_l7, ct_l4, ct_l8, ct_l3, ct_l10]) (Nat.le_of_ble_eq_true rfl) (Nat.le_of_ble_eq_true rfl) ct_l4 (Nat.le_of_ble_eq_true rfl) (Nat.le_of_ble_eq_true rfl) ?_
  refine ct_putF 2 tyX9 [.ref (a + 1), .ref (a + 3), .ref (a + 9), .null, .null, .null, .null, .null, .int 0, .int 0, .int 0, .int 0] dX9_init_34 rfl in_9 tyX9_ok nmX9 (by decide) kz_600 rfl rfl rfl rfl (Nat.le_of_ble_eq_true rfl) rfl ?_
  refine ct_aload0 dX9_init_37 ?_
  refine ct_child0 ci_2 2 2 40 1994 11 ct_f2 ct_t2 tyX2 dX9_init_38 dX9_init_41 dX9_init_42 rfl in_2 tyX2_ok ct_d2 kz_132 kz_133 kz_21 (Or.inl ⟨"MulePostBishops", List.mem_of_getElem? (i := 3) (by decide +kernel)⟩) c_ct2 (by simp only [List.length_append, List.length_cons, List.length_nil, ct_l0, ct_l1, ct_l5, ct_l6, ct_l2, ct_l7, ct_l4, ct_l8, ct_l3, ct_l10]) (Nat.le_of_ble_eq_true rfl) (Nat.le_of_ble_eq_true rfl) ct_l2 (Nat.le_of_ble_eq_true rfl) (Nat.le_of_ble_eq_true rfl) ?_
  refine ct_putF 3 tyX9 [.ref (a + 1), .ref (a + 3), .ref (a + 9), .ref (a + 11), .null, .null, .null, .null, .int 0, .int 0, .int 0, .int 0] dX9_init_45 rfl in_9 tyX9_ok nmX9 (by decide) kz_601 rfl rfl rfl rfl (Nat.le_of_ble_eq_true rfl) rfl ?_
  refine ct_aload0 dX9_init_48 ?_
  refine ct_child0 ci_2 2 2 40 1994 52 ct_f2 ct_t2 tyX2 dX9_init_49 dX9_init_52 dX9_init_53 rfl in_2 tyX2_ok ct_d2 kz_132 kz_133 kz_21 (Or.inl ⟨"MulePostBishops", List.mem_of_getElem? (i := 3) (by decide +kernel)⟩) c_ct2 (by simp only [List.length_append, List.length_cons, List.length_nil, ct_l0, ct_l1, ct_l5, ct_l6, ct_l2, ct_l7, ct_l4, ct_l8, ct_l3, ct_l10]) (Nat.le_of_ble_eq_true rfl) (Nat.le_of_ble_eq_true rfl) ct_l2 (Nat.le_of_ble_eq_true rfl) (Nat.le_of_ble_eq_true rfl) ?_
  refine ct_putF 4 tyX9 [.ref (a + 1), .ref (a + 3), .ref (a + 9), .ref (a + 11), .ref (a + 52), .null, .null, .null, .int 0, .int 0, .int 0, .int 0] dX9_init_56 rfl in_9 tyX9_ok nmX9 (by decide) kz_602 rfl rfl rfl rfl (Nat.le_of_ble_eq_true rfl) rfl ?_
  refine ct_aload0 dX9_init_59 ?_
  refine ct_child0 ci_3 3 3 329 16008 93 ct_f3 ct_t3 tyX3 dX9_init_60 dX9_init_63 dX9_init_64 rfl in_3 tyX3_ok ct_d3 kz_316 kz_317 kz_26 (Or.inr kz_318) c_ct3 (by simp only [List.length_append, List.length_cons, List.length_nil, ct_l0, ct_l1, ct_l5, ct_l6, ct_l2, ct_l7, ct_l4, ct_l8, ct_l3, ct_l10]) (Nat.le_of_ble_eq_true rfl) (Nat.le_of_ble_eq_true rfl) ct_l3 (Nat.le_of_ble_eq_true rfl) (Nat.le_of_ble_eq_true rfl) ?_
  refine ct_putF 5 tyX9 [.ref (a + 1), .ref (a + 3), .ref (a + 9), .ref (a + 11), .ref (a + 52), .ref (a + 93), .null, .null, .int 0, .int 0, .int 0, .int 0] dX9_init_67 rfl in_9 tyX9_ok nmX9 (by decide) kz_603 rfl rfl rfl rfl (Nat.le_of_ble_eq_true rfl) rfl ?_
  refine ct_aload0 dX9_init_70 ?_
  refine ct_child0 ci_2 2 2 40 1994 423 ct_f2 ct_t2 tyX2 dX9_init_71 dX9_init_74 dX9_init_75 rfl in_2 tyX2_ok ct_d2 kz_132 kz_133 kz_21 (Or.inl ⟨"MulePostBishops", List.mem_of_getElem? (i := 3) (by decide +kernel)⟩) c_ct2 (by simp only [List.length_append, List.length_cons, List.length_nil, ct_l0, ct_l1, ct_l5, ct_l6, ct_l2, ct_l7, ct_l4, ct_l8, ct_l3, ct_l10]) (Nat.le_of_ble_eq_true rfl) (Nat.le_of_ble_eq_true rfl) ct_l2 (Nat.le_of_ble_eq_true rfl) (Nat.le_of_ble_eq_true rfl) ?_
  refine ct_putF 6 tyX9 [.ref (a + 1), .ref (a + 3), .ref (a + 9), .ref (a + 11), .ref (a + 52), .ref (a + 93), .ref (a + 423), .null, .int 0, .int 0, .int 0, .int 0] dX9_init_78 rfl in_9 tyX9_ok nmX9 (by decide) kz_604 rfl rfl rfl rfl (Nat.le_of_ble_eq_true rfl) rfl ?_
  refine ct_aload0 dX9_init_81 ?_
  refine ct_child0 ci_2 2 2 40 1994 464 ct_f2 ct_t2 tyX2 dX9_init_82 dX9_init_85 dX9_init_86 rfl in_2 tyX2_ok ct_d2 kz_132 kz_133 kz_21 (Or.inl ⟨"MulePostBishops", List.mem_of_getElem? (i := 3) (by decide +kernel)⟩) c_ct2 (by simp only [List.length_append, List.length_cons, List.length_nil, ct_l0, ct_l1, ct_l5, ct_l6, ct_l2, ct_l7, ct_l4, ct_l8, ct_l3, ct_l10]) (Nat.le_of_ble_eq_true rfl) (Nat.le_of_ble_eq_true rfl) ct_l2 (Nat.le_of_ble_eq_true rfl) (Nat.le_of_ble_eq_true rfl) ?_
  refine ct_putF 7 tyX9 [.ref (a + 1), .ref (a + 3), .ref (a + 9), .ref (a + 11), .ref (a + 52), .ref (a + 93), .ref (a + 423), .ref (a + 464), .int 0, .int 0, .int 0, .int 0] dX9_init_89 rfl in_9 tyX9_ok nmX9 (by decide) kz_605 rfl rfl rfl rfl (Nat.le_of_ble_eq_true rfl) rfl ?_
  refine ct_aload0 dX9_init_92 ?_
  refine ct_iconst (-1) dX9_init_93 (by decide) ?_
  refine ct_putI 11 tyX9 [.ref (a + 1), .ref (a + 3), .ref (a + 9), .ref (a + 11), .ref (a + 52), .ref (a + 93), .ref (a + 423), .ref (a + 464), .int 0, .int 0, .int 0, .int (-1)] dX9_init_94 rfl in_9 tyX9_ok nmX9 (by decide) kz_609 rfl rfl rfl (Nat.le_of_ble_eq_true rfl) rfl ?_
  refine ct_toE (S := (fun q => ct_row ct_t9 (q - a), ev_s0)) (Lv := [some (ev_o 9 a), none]) (Nat.le_of_ble_eq_true rfl) (Nat.le_of_ble_eq_true rfl) rfl rfl rfl ev_lw0 (fun ls hl => ct_has hl rfl (fun i v hi => ?_)) (fun H o t => ct_ent9 (fun i => ?_) rfl (by rw [← ha]; exact ct_P.cons o t)) ?_
  · match i, hi with
    | 0, hi => cases hi; exact ⟨List.mem_cons_self, ev_mem_al.mpr (Or.inl ⟨0, by omega, by rw [ha]; rfl⟩)⟩
    | 1, hi => cases hi
    | i + 2, hi => simp at hi
  · show ct_row ct_t9 (ev_b g + i - a) = _
    rw [ha, Nat.add_sub_cancel_left]
  · refine x9_new hp rfl (fun i => ?_)
    show ct_row ct_t9 (a + i - a) = _
    rw [Nat.add_sub_cancel_left]
