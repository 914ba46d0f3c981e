/-! ===== the law's cases: moves written, a byte of them ===== -/
def nm (x : Int32) : List Int32 := if x < 10 then [48 + ev_rem x 10] else [48 + x / 10, 48 + ev_rem x 10]
theorem nm_len (x : Int32) : (nm x).length ≤ 2 := by
  unfold nm
  by_cases h : x < 10
  · rw [if_pos h]; show 1 ≤ 2; omega
  · rw [if_neg h]; exact Nat.le_refl _
def mvl (r : Nat → Int32) (p k : Nat) : List Int32 := nm (r (154 + 180 * p + 3 * k)) ++ ((if r (154 + 180 * p + 3 * k + 2) = 1 then 120 else 45) :: nm (r (154 + 180 * p + 3 * k + 1)))
def wmv (r : Nat → Int32) (p : Nat) : Nat → Nat → List Int32
  | 0, _ => []
  | w + 1, k => (if k = 0 then [] else [32]) ++ (mvl r p k ++ wmv r p w (k + 1))
theorem mvl_len (r : Nat → Int32) (p k : Nat) : (mvl r p k).length ≤ 5 := by
  unfold mvl
  have h1 := nm_len (r (154 + 180 * p + 3 * k))
  have h2 := nm_len (r (154 + 180 * p + 3 * k + 1))
  rw [List.length_append, List.length_cons]
  omega
theorem sp_len (k : Nat) : (if k = 0 then ([] : List Int32) else [32]).length ≤ 1 := by
  by_cases h : k = 0
  · rw [if_pos h]; exact Nat.zero_le _
  · rw [if_neg h]; exact Nat.le_refl _
theorem wmv_len (r : Nat → Int32) (p : Nat) : ∀ w k, (wmv r p w k).length ≤ 6 * w := by
  intro w
  induction w with
  | zero => intro k; exact Nat.zero_le _
  | succ w ih =>
    intro k
    have h1 := mvl_len r p k
    have h2 := sp_len k
    have h3 := ih (k + 1)
    rw [wmv, List.length_append, List.length_append]
    omega
theorem t_num2 {g : ev_G} {S z : ev_S} {e : Nat} {x : Int32} {W : List Int32} (hz : oC S z e W) (hl : W.length + 2 ≤ 400) {Q : ev_O → ev_S → Prop} (hQ : ∀ y, oC S y e (W ++ nm x) → Q (.inl none) y) : ev_Cv g m_X4_addNumber 3 0 [ev_o 4 e, ev_i x] z Q := by
  unfold nm at hQ
  refine sg_X4_addNumber_0 e _ ⟨fun h S1 e1 => ?_, fun h S2 e2 S3 e3 => ?_⟩
  · rw [if_pos h] at hQ
    exact hQ S1 (oC_1 hz (by omega) e1)
  · rw [if_neg h] at hQ
    have h1 := oC_1 hz (by omega) e2
    have h2 := oC_1 h1 (by rw [List.length_append]; show W.length + 1 < 400; omega) e3
    rw [List.append_assoc] at h2
    exact hQ S3 h2
theorem le9 {x : Int32} : x ≤ 9 ↔ x < 10 := by
  have i9 : (9 : Int32).toInt = 9 := rfl
  have i10 : (10 : Int32).toInt = 10 := rfl
  rw [z_le, z_lt, i9, i10]
  omega
theorem c_num2 {g : ev_G} {S z : ev_S} {m : Nat} {x : Int32} {W : List Int32} (hz : oR S z m W) (hl : W.length + 2 ≤ 400) {Q : ev_O → ev_S → Prop} (hQ : ∀ y, oR S y m (W ++ nm x) → Q (.inl none) y) : ev_Cv g m_X10_writesNumber 2 0 [ev_o 10 m, ev_i x] z Q := by
  unfold nm at hQ
  refine sg_X10_writesNumber_0 m _ ?_
  rw [le9]
  refine ⟨fun h => ⟨(oR_1 (v := 46) hz (by omega)).1, fun S1 e1 => ?_⟩, fun h => ⟨(oR_1 (v := 46) hz (by omega)).1, fun S2 e2 => ?_⟩⟩
  · rw [if_pos h] at hQ
    exact hQ S1 ((oR_1 hz (by omega)).2 S1 e1)
  · rw [if_neg h] at hQ
    have h1 := (oR_1 hz (by omega)).2 S2 e2
    have hl1 : (W ++ [48 + x / 10]).length < 400 := by rw [List.length_append]; show W.length + 1 < 400; omega
    refine ⟨(oR_1 (v := 46) h1 hl1).1, fun S3 e3 => ?_⟩
    have h2 := (oR_1 h1 hl1).2 S3 e3
    rw [List.append_assoc] at h2
    exact hQ S3 h2
theorem qb_fr {M M' : Nat → Nat → Int32} {b p n mm : Nat} {r : Nat → Int32} (h : q_board M b r p n mm) (f : ∀ q, b ≤ q → q < b + 5 → M' q = M q) : q_board M' b r p n mm := by
  unfold q_board at h ⊢
  rw [f b (by omega) (by omega), f (b + 1) (by omega) (by omega), f (b + 2) (by omega) (by omega), f (b + 3) (by omega) (by omega), f (b + 4) (by omega) (by omega)]
  exact h
theorem t_mv {g : ev_G} {S : ev_S} {e b0 p n mm : Nat} {r : Nat → Int32} {Q : ev_O → ev_S → Prop} (h8 : n ≤ 8) (hb : e + 1 < b0) (hm : r (12 + 7 * p) = Int32.ofNat mm) (h60 : mm ≤ 60) (hmv : i_mv r p n mm) (hq : q_board S.1 b0 r p n mm) : ∀ (w k : Nat) (z : ev_S) (W : List Int32), k + w = mm → oC S z e W → W.length + 6 * w ≤ 390 →
    (∀ z', oC S z' e (W ++ wmv r p w k) → Q (.inl none) z') → ev_E g m_X4_listMoves 4 0 7 [some (ev_o 4 e), some (ev_o 0 b0), some (ev_i (Int32.ofNat (k + 1))), none] [] z Q := by
  intro w
  induction w with
  | zero =>
    intro k z W hk hz hl hQ
    have hqz : q_board z.1 b0 r p n mm := qb_fr hq (fun q q1 q2 => hz.2.1 q (by omega) (by omega))
    have e6 : z.1 b0 6 = Int32.ofNat mm := by rw [hqz.2.2.2.2.2.1]; exact hm
    refine sg_X4_listMoves_7 e b0 _ (j_pos (by rw [e6, n_lt (by omega) (by omega)]; omega) (hQ z ?_))
    rw [wmv, List.append_nil]
    exact hz
  | succ w ih =>
    intro k z W hk hz hl hQ
    have hqz : q_board z.1 b0 r p n mm := qb_fr hq (fun q q1 q2 => hz.2.1 q (by omega) (by omega))
    have e6 : z.1 b0 6 = Int32.ofNat mm := by rw [hqz.2.2.2.2.2.1]; exact hm
    obtain ⟨v1, v2⟩ := (mv_at (x := Int32.ofNat (k + 1)) h8 hm h60 hmv hqz).2 k rfl (by omega)
    have i1 : (1 : Int32) = Int32.ofNat 1 := rfl
    -- number, sign, number, and on
    have go : ∀ (y : ev_S) (V : List Int32), V = W ++ (if k = 0 then [] else [32]) → oC S y e V → ev_Cv g m_X4_addNumber 3 0 [ev_o 4 e, ev_i (r (154 + 180 * p + 3 * k))] y (fun o S1 => o = .inl none ∧ ((j_at (S1.1 (b0 + 4)) 61 (Int32.ofNat (k + 1)) = 1 → ∀ S2 : ev_S, S2 = (ev_up (j_put S1 (e + 1) 400 (S1.1 e 1) 120) e 1 (((j_put S1 (e + 1) 400 (S1.1 e 1) 120).1 e 1) + 1)) → ev_Cv g m_X4_addNumber 3 0 [ev_o 4 e, ev_i (r (154 + 180 * p + 3 * k + 1))] S2 (fun o S3 => o = .inl none ∧ ev_E g m_X4_listMoves 4 0 7 [some (ev_o 4 e), some (ev_o 0 b0), some (ev_i (Int32.ofNat (k + 1) + 1)), none] [] S3 Q)) ∧
        (¬ j_at (S1.1 (b0 + 4)) 61 (Int32.ofNat (k + 1)) = 1 → ∀ S2 : ev_S, S2 = (ev_up (j_put S1 (e + 1) 400 (S1.1 e 1) 45) e 1 (((j_put S1 (e + 1) 400 (S1.1 e 1) 45).1 e 1) + 1)) → ev_Cv g m_X4_addNumber 3 0 [ev_o 4 e, ev_i (r (154 + 180 * p + 3 * k + 1))] S2 (fun o S3 => o = .inl none ∧ ev_E g m_X4_listMoves 4 0 7 [some (ev_o 4 e), some (ev_o 0 b0), some (ev_i (Int32.ofNat (k + 1) + 1)), none] [] S3 Q)))) := by
      intro y V hV hy
      have hVl : V.length ≤ W.length + 1 := by rw [hV, List.length_append]; have := sp_len k; omega
      refine t_num2 hy (by omega) (fun S1 h1 => ⟨rfl, ?_⟩)
      have l1 := nm_len (r (154 + 180 * p + 3 * k))
      have l2 := nm_len (r (154 + 180 * p + 3 * k + 1))
      have hl1 : (V ++ nm (r (154 + 180 * p + 3 * k))).length ≤ V.length + 2 := by rw [List.length_append]; omega
      have hs1 : S1.1 (b0 + 4) (k + 1) = r (154 + 180 * p + 3 * k + 2) := by
        rw [h1.2.1 _ (by omega) (by omega)]
        exact (hq.2.2.2.2.2.2.2.2 k (by omega)).2
      rw [a_in (by omega) (by omega), hs1, n_inc]
      have fin : ∀ (cc : Int32) (S3 : ev_S), cc = (if r (154 + 180 * p + 3 * k + 2) = 1 then 120 else 45) → oC S S3 e (((V ++ nm (r (154 + 180 * p + 3 * k))) ++ [cc]) ++ nm (r (154 + 180 * p + 3 * k + 1))) → ev_E g m_X4_listMoves 4 0 7 [some (ev_o 4 e), some (ev_o 0 b0), some (ev_i (Int32.ofNat (k + 1 + 1))), none] [] S3 Q := by
        intro cc S3 hcc h3
        have hV2 : ((V ++ nm (r (154 + 180 * p + 3 * k))) ++ [cc]) ++ nm (r (154 + 180 * p + 3 * k + 1)) = W ++ ((if k = 0 then [] else [32]) ++ mvl r p k) := by
          unfold mvl
          rw [hV, hcc]
          simp only [List.append_assoc, List.cons_append, List.nil_append, List.singleton_append]
        rw [hV2] at h3
        have l3 := mvl_len r p k
        have l4 := sp_len k
        refine ih (k + 1) S3 _ (by omega) h3 (by rw [List.length_append, List.length_append]; omega) (fun z' hz' => hQ z' ?_)
        rw [wmv]
        rw [List.append_assoc, List.append_assoc] at hz'
        exact hz'
      refine ⟨fun h2 S2 e2 => ?_, fun h2 S2 e2 => ?_⟩
      · have h4 := oC_1 h1 (by omega) e2
        exact t_num2 h4 (by rw [List.length_append]; show _ + 1 + 2 ≤ 400; omega) (fun S3 h3 => ⟨rfl, fin _ S3 (by rw [if_pos h2]) h3⟩)
      · have h4 := oC_1 h1 (by omega) e2
        exact t_num2 h4 (by rw [List.length_append]; show _ + 1 + 2 ≤ 400; omega) (fun S3 h3 => ⟨rfl, fin _ S3 (by rw [if_neg h2]) h3⟩)
    refine sg_X4_listMoves_7 e b0 _ (j_neg (by rw [e6, n_lt (by omega) (by omega)]; omega) ?_)
    rw [v1, v2]
    refine ⟨fun hk1 => ?_, fun hk1 S6 e6' => ?_⟩
    · rw [i1, n_le (by omega) (by omega)] at hk1
      exact go z W (by rw [if_pos (by omega : k = 0), List.append_nil]) hz
    · rw [i1, n_le (by omega) (by omega)] at hk1
      exact go S6 (W ++ [32]) (by rw [if_neg (by omega : ¬ k = 0)]) (oC_1 hz (by omega) e6')
theorem c_mv {g : ev_G} {S : ev_S} {m p mm : Nat} {Q : ev_O → ev_S → Prop} (hp : p < 2) (hm : S.1 (m + 1) (12 + 7 * p) = Int32.ofNat mm) (h60 : mm ≤ 60) : ∀ (w k : Nat) (z : ev_S) (W : List Int32), k + w = mm → oR S z m W → W.length + 6 * w ≤ 390 →
    (∀ z', oR S z' m (W ++ wmv (S.1 (m + 1)) p w k) → Q (.inl (some (ev_i (Int32.ofNat (W ++ wmv (S.1 (m + 1)) p w k).length)))) z') → ev_E g m_X10_writeMoves 3 0 26 [some (ev_o 10 m), some (ev_i (Int32.ofNat p)), some (ev_i (Int32.ofNat (k + 1)))] [] z Q := by
  have ip : (12 : Int32) + 7 * Int32.ofNat p + 0 = Int32.ofNat (12 + 7 * p) := by simp (disch := omega) only [lm_2, lm_3, lm_6, lm_7, lm_11, lm_12, lm_15, lm_64, lm_124, lm_180, la_1, la_2, la_3, la_12, la_26, la_154, la_514, la_762, la_1140, la_1200, ra_0, ra_1, ra_2, ra_3, ra_4, ra_5, ra_6, ra_7, ra_8, ra_9, ra_10, ra_48, rm_12, rm_2, rm_64, rm_6, n_add, n_mul, n_d1, n_vp, n_c, true_and]
  intro w
  induction w with
  | zero =>
    intro k z W hk hz hl hQ
    have e0 : z.1 (m + 1) = S.1 (m + 1) := hz.2.1 _ (by omega) (by omega)
    refine sg_X10_writeMoves_26 m _ _ ?_
    rw [ip, n_c (by omega), e0, hm]
    refine ⟨(n_vp (by omega) (by omega)).mpr trivial, j_pos (by rw [n_lt (by omega) (by omega)]; omega) ?_⟩
    have := hQ z (by rw [wmv, List.append_nil]; exact hz)
    rw [wmv, List.append_nil] at this
    rw [hz.2.2.1]
    exact this
  | succ w ih =>
    intro k z W hk hz hl hQ
    have e0 : z.1 (m + 1) = S.1 (m + 1) := hz.2.1 _ (by omega) (by omega)
    have i1 : (1 : Int32) = Int32.ofNat 1 := rfl
    have ix : ∀ j : Nat, j < 3 → (154 : Int32) + 180 * Int32.ofNat p + 3 * (Int32.ofNat (k + 1) - 1) + Int32.ofNat j = Int32.ofNat (154 + 180 * p + 3 * k + j) := by
      intro j hj
      rw [n_dec _ (by omega), Nat.add_sub_cancel]
      simp (disch := omega) only [lm_2, lm_3, lm_6, lm_7, lm_11, lm_12, lm_15, lm_64, lm_124, lm_180, la_1, la_2, la_3, la_12, la_26, la_154, la_514, la_762, la_1140, la_1200, ra_0, ra_1, ra_2, ra_3, ra_4, ra_5, ra_6, ra_7, ra_8, ra_9, ra_10, ra_48, rm_12, rm_2, rm_64, rm_6, n_add, n_mul, n_d1, n_vp, n_c, true_and]
    have ix0 : (154 : Int32) + 180 * Int32.ofNat p + 3 * (Int32.ofNat (k + 1) - 1) + 0 = Int32.ofNat (154 + 180 * p + 3 * k) := ix 0 (by omega)
    have ix1 : (154 : Int32) + 180 * Int32.ofNat p + 3 * (Int32.ofNat (k + 1) - 1) + 1 = Int32.ofNat (154 + 180 * p + 3 * k + 1) := ix 1 (by omega)
    have ix2 : (154 : Int32) + 180 * Int32.ofNat p + 3 * (Int32.ofNat (k + 1) - 1) + 2 = Int32.ofNat (154 + 180 * p + 3 * k + 2) := ix 2 (by omega)
    have nx : Int32.ofNat (k + 1) + 1 = Int32.ofNat (k + 1 + 1) := n_inc _
    have vp0 : vp_in (Int32.ofNat (154 + 180 * p + 3 * k)) 2091 := (n_vp (by omega) (by omega)).mpr trivial
    have vp1 : vp_in (Int32.ofNat (154 + 180 * p + 3 * k + 1)) 2091 := (n_vp (by omega) (by omega)).mpr trivial
    have vp2 : vp_in (Int32.ofNat (154 + 180 * p + 3 * k + 2)) 2091 := (n_vp (by omega) (by omega)).mpr trivial
    refine sg_X10_writeMoves_26 m _ _ ?_
    rw [ip, ix0, ix1, ix2, nx, n_c (by omega), n_c (by omega), n_c (by omega), n_c (by omega), e0, hm]
    refine ⟨(n_vp (by omega) (by omega)).mpr trivial, j_neg (by rw [n_lt (by omega) (by omega)]; omega) ?_⟩
    have fin : ∀ (V : List Int32) (cc : Int32) (S3 : ev_S), V = W ++ (if k = 0 then [] else [32]) → cc = (if S.1 (m + 1) (154 + 180 * p + 3 * k + 2) = 1 then 120 else 45) → oR S S3 m (((V ++ nm (S.1 (m + 1) (154 + 180 * p + 3 * k))) ++ [cc]) ++ nm (S.1 (m + 1) (154 + 180 * p + 3 * k + 1))) → ev_E g m_X10_writeMoves 3 0 26 [some (ev_o 10 m), some (ev_i (Int32.ofNat p)), some (ev_i (Int32.ofNat (k + 1 + 1)))] [] S3 Q := by
      intro V cc S3 hV hcc h3
      have hV2 : ((V ++ nm (S.1 (m + 1) (154 + 180 * p + 3 * k))) ++ [cc]) ++ nm (S.1 (m + 1) (154 + 180 * p + 3 * k + 1)) = W ++ ((if k = 0 then [] else [32]) ++ mvl (S.1 (m + 1)) p k) := by
        unfold mvl
        rw [hV, hcc]
        simp only [List.append_assoc, List.cons_append, List.nil_append, List.singleton_append]
      rw [hV2] at h3
      have l3 := mvl_len (S.1 (m + 1)) p k
      have l4 := sp_len k
      refine ih (k + 1) S3 _ (by omega) h3 (by rw [List.length_append, List.length_append]; omega) ?_
      rw [wmv] at hQ
      rw [List.append_assoc, List.append_assoc]
      exact hQ
    have l1 := nm_len (S.1 (m + 1) (154 + 180 * p + 3 * k))
    have step : ∀ (V : List Int32) (S1 : ev_S), V = W ++ (if k = 0 then [] else [32]) → oR S S1 m (V ++ nm (S.1 (m + 1) (154 + 180 * p + 3 * k))) →
        vp_in (Int32.ofNat (154 + 180 * p + 3 * k + 2)) 2091 ∧ ((S1.1 (m + 1) (154 + 180 * p + 3 * k + 2) = 1 → vp_in (S1.1 m 27) 500 ∧ ∀ S4 : ev_S, S4 = (ev_up (ev_up S1 (m + 10) (S1.1 m 27).toNatClampNeg 120) m 27 ((S1.1 m 27) + 1)) → vp_in (Int32.ofNat (154 + 180 * p + 3 * k + 1)) 2091 ∧ ev_Cv g m_X10_writesNumber 2 0 [ev_o 10 m, ev_i ((ev_up S1 (m + 10) (S1.1 m 27).toNatClampNeg 120).1 (m + 1) (154 + 180 * p + 3 * k + 1))] S4 (fun o S5 => o = .inl none ∧ ev_E g m_X10_writeMoves 3 0 26 [some (ev_o 10 m), some (ev_i (Int32.ofNat p)), some (ev_i (Int32.ofNat (k + 1 + 1)))] [] S5 Q)) ∧
          (¬ S1.1 (m + 1) (154 + 180 * p + 3 * k + 2) = 1 → vp_in (S1.1 m 27) 500 ∧ ∀ S4 : ev_S, S4 = (ev_up (ev_up S1 (m + 10) (S1.1 m 27).toNatClampNeg 45) m 27 ((S1.1 m 27) + 1)) → vp_in (Int32.ofNat (154 + 180 * p + 3 * k + 1)) 2091 ∧ ev_Cv g m_X10_writesNumber 2 0 [ev_o 10 m, ev_i ((ev_up S1 (m + 10) (S1.1 m 27).toNatClampNeg 45).1 (m + 1) (154 + 180 * p + 3 * k + 1))] S4 (fun o S5 => o = .inl none ∧ ev_E g m_X10_writeMoves 3 0 26 [some (ev_o 10 m), some (ev_i (Int32.ofNat p)), some (ev_i (Int32.ofNat (k + 1 + 1)))] [] S5 Q))) := by
      intro V S1 hV h1
      have hVl : V.length ≤ W.length + 1 := by rw [hV, List.length_append]; have := sp_len k; omega
      have hl1 : (V ++ nm (S.1 (m + 1) (154 + 180 * p + 3 * k))).length ≤ V.length + 2 := by rw [List.length_append]; omega
      have e1 : S1.1 (m + 1) = S.1 (m + 1) := h1.2.1 _ (by omega) (by omega)
      rw [m_r (by omega), m_r (by omega), e1]
      refine ⟨vp2, fun h2 => ⟨(oR_1 (v := 46) h1 (by omega)).1, fun S4 e4 => ⟨vp1, ?_⟩⟩, fun h2 => ⟨(oR_1 (v := 46) h1 (by omega)).1, fun S4 e4 => ⟨vp1, ?_⟩⟩⟩
      · have h4 := (oR_1 h1 (by omega)).2 S4 e4
        exact c_num2 h4 (by rw [List.length_append]; show _ + 1 + 2 ≤ 400; omega) (fun S3 h3 => ⟨rfl, fin V _ S3 hV (by rw [if_pos h2]) h3⟩)
      · have h4 := (oR_1 h1 (by omega)).2 S4 e4
        exact c_num2 h4 (by rw [List.length_append]; show _ + 1 + 2 ≤ 400; omega) (fun S3 h3 => ⟨rfl, fin V _ S3 hV (by rw [if_neg h2]) h3⟩)
    refine ⟨fun hk1 => ⟨vp0, ?_⟩, fun hk1 => ⟨(oR_1 (v := 46) hz (by omega)).1, fun S6 e6 => ⟨vp0, ?_⟩⟩⟩
    · rw [i1, n_le (by omega) (by omega)] at hk1
      exact c_num2 hz (by omega) (fun S1 h1 => ⟨rfl, step W S1 (by rw [if_pos (by omega : k = 0), List.append_nil]) h1⟩)
    · rw [i1, n_le (by omega) (by omega)] at hk1
      rw [m_r (by omega), e0]
      have h6 := (oR_1 hz (by omega)).2 S6 e6
      exact c_num2 h6 (by rw [List.length_append]; show W.length + 1 + 2 ≤ 400; omega) (fun S1 h1 => ⟨rfl, step (W ++ [32]) S1 (by rw [if_neg (by omega : ¬ k = 0)]) h1⟩)
theorem w_2892 {g : ev_G} {B k0 a m o1 o2 : Nat} {u5 : Int32} {S : ev_S} {Q : ev_O → ev_S → Prop} (c : CS g B k0 a m o1 o2 u5 S Q) : KA g B 2892 k0 a m o1 o2 u5 S Q := by
  obtain ⟨n, lim, np, L, d, ρ, hI, hL, hd, hg, hk⟩ := c.hi.1
  refine sg_L_law_2892 k0 a m o1 o2 u5 ⟨c.v1, ?_⟩
  generalize ev_sx g (u5 + 1).toNatClampNeg = x1
  have hm := c.hm
  have h8 := hI.1.1.2.1
  have bad : ¬ t_X9_isPlayer x1 = true → ev_Cv g m_X10_writeMoves 3 0 [ev_o 10 m, ev_i x1] S (RI g B k0 a m o1 o2 u5 Q 1) := by
    intro h
    refine sg_X10_writeMoves_0 m _ (fun S1 e1 => j_neg (rpn h) (fun S3 e3 => ?_))
    rw [e3, e1, up_up7]
    exact c.eri (by decide)
  refine sg_L_writeMoves_0 a _ _ (sg_X9_writeMoves_0 a _ ⟨fun h => ?_, fun h => Or.inr ⟨rfl, _, rfl, bad h⟩⟩)
  obtain ⟨p, rfl, hp⟩ := t_pl.mp h
  obtain ⟨hmd, hml, h60⟩ := n_mad (i_dk_of hI.1 hp)
  rw [a_desk hp]
  have hlen : (wmv (S.1 (m + 1)) p (o_mad (S.1 (m + 1)) p) 0).length < 400 := by
    have h1 := wmv_len (S.1 (m + 1)) p (o_mad (S.1 (m + 1)) p) 0
    omega
  have fin : ∀ z : ev_S, oC S z (a + 9) (wmv (S.1 (m + 1)) p (o_mad (S.1 (m + 1)) p) 0) → (∃ v1_ : Int32, (.inl (some (ev_i (z.1 (a + 9) 1))) : ev_O) = .inl (some (ev_i v1_)) ∧ ∀ S2 : ev_S, S2 = (z.1, (v1_.toInt64, z.2.2)) → ∃ v1_ : Int32, (.inl (some (ev_i 0)) : ev_O) = .inl (some (ev_i v1_)) ∧ ev_Cv g m_X10_writeMoves 3 0 [ev_o 10 m, ev_i (Int32.ofNat p)] S2 (RI g B k0 a m o1 o2 u5 Q v1_)) := by
    intro z hz
    obtain ⟨z1, z2, z3, z4⟩ := hz
    refine ⟨_, rfl, fun S2 e2 => ⟨_, rfl, ?_⟩⟩
    have eq2 : S2.1 = z.1 := by rw [e2]
    have zm : ∀ q, m ≤ q → S2.1 q = S.1 q := fun q hq => by rw [eq2]; exact z2 q (by omega) (by omega)
    refine sg_X10_writeMoves_0 m _ (fun S1 e1 => j_pos (rp.mpr ⟨p, rfl, hp⟩) (fun S4 e4 => ?_))
    have h0 := oR_0 e1 e4
    have er : S2.1 (m + 1) = S.1 (m + 1) := zm _ (by omega)
    have last : ∀ y, oR S2 y m (wmv (S.1 (m + 1)) p (o_mad (S.1 (m + 1)) p) 0) → RI g B k0 a m o1 o2 u5 Q 0 (.inl (some (ev_i (Int32.ofNat (wmv (S.1 (m + 1)) p (o_mad (S.1 (m + 1)) p) 0).length)))) y := by
      intro y hy
      obtain ⟨y1, y2, y3, y4, y7, y5⟩ := hy
      refine c.fni (INV_out hm c.hi (fun q q9 q10 qm qm10 => by rw [y2 q qm qm10, eq2]; exact z2 q q9 q10) (fun j j7 j27 => by rw [y4 j j7 j27, zm _ (by omega)]) (Nat.le_of_lt hlen) (by rw [y2 _ (by omega) (by omega), eq2]; exact z3) y3 (by rw [y2 _ (by omega) (by omega), eq2]; exact z4) y5) y7 ?_
      rw [y1, e2, ← z3]
    have hm2 : S2.1 (m + 1) (12 + 7 * p) = Int32.ofNat (o_mad (S.1 (m + 1)) p) := by rw [er]; exact hmd
    refine c_mv (S := S2) hp hm2 (by omega) (o_mad (S.1 (m + 1)) p) 0 S4 [] (by omega) h0 (by show 0 + 6 * _ ≤ 390; omega) (fun y hy => ?_)
    rw [List.nil_append, er] at hy ⊢
    exact last y hy
  refine sg_X4_listMoves_0 (a + 9) _ (fun S1 e1 => ?_)
  exact t_mv (S := S) (r := S.1 (m + 1)) (p := p) h8 (by omega) hmd (by omega) (hI.2.2 p hp).2 (hg.1 p hp).2.1 (o_mad (S.1 (m + 1)) p) 0 S1 [] (by omega) (oC_0 e1) (by show 0 + 6 * _ ≤ 390; omega) (fun z hz => ⟨rfl, Or.inl (fin z hz)⟩)
theorem w_2948 {g : ev_G} {B k0 a m o1 o2 : Nat} {u5 : Int32} {S : ev_S} {Q : ev_O → ev_S → Prop} (c : CS g B k0 a m o1 o2 u5 S Q) : KA g B 2948 k0 a m o1 o2 u5 S Q := by
  have hm := c.hm
  obtain ⟨w, hw, w1, w2, w3⟩ := c.hi.2.2.2.2.2.2
  refine sg_L_law_2948 k0 a m o1 o2 u5 ⟨c.v1, ?_⟩
  generalize ev_sx g (u5 + 1).toNatClampNeg = x1
  have hK := c.k2 _ (INV_u7 (v := 0) c.hm c.hi rfl)
  have hrg : t_X10_in x1 0 (S.1 m 27 - 1) = true ↔ ∃ q, x1 = Int32.ofNat q ∧ q < w := rq w2 (by omega)
  refine sg_X10_outputByte_0 m _ (fun S1 e1 => ?_)
  rw [hrg]
  refine ⟨fun h => ?_, fun h => ⟨_, rfl, ?_⟩⟩
  · obtain ⟨q, rfl, hq⟩ := h
    rw [n_c (by omega)]
    refine ⟨(n_vp (by omega) (by omega)).mpr trivial, _, rfl, ?_⟩
    rw [e1]
    refine j_pos ?_ hK
    unfold f_X4_byteAt
    rw [w1, if_neg (by rw [n_le (by omega) (by omega)]; omega)]
    have : j_at (S.1 (a + 10)) 400 (Int32.ofNat q) = S.1 (a + 10) q := a_in (by omega) (by omega)
    exact this.trans (w3 q hq)
  · rw [e1]
    refine j_pos ?_ hK
    unfold f_X4_byteAt
    by_cases h1 : S.1 (a + 9) 1 ≤ x1
    · rw [if_pos h1]
    · rw [if_neg h1]
      unfold j_at
      by_cases h0 : x1 < 0
      · rw [if_pos h0]
      · exfalso
        refine h ((n_rng (by omega)).mp ⟨Int32.not_lt.mp h0, ?_⟩)
        rw [w1] at h1
        have h2 := Int32.not_le.mp h1
        have h3 := Int32.not_lt.mp h0
        have i0 : (0 : Int32).toInt = 0 := rfl
        rw [z_lt, n_i (by omega)] at h2
        rw [z_le, i0] at h3
        obtain ⟨q, k1, k2, k3⟩ := n_ofi (x := x1) (k := w) h3 (by omega)
        rw [k1, n_i k3] at h2
        rw [k1, n_dec _ (by omega), n_le (by omega) (by omega)]
        omega
