/-! ===== the law: a board is as in the own game ===== -/
theorem dc_self {x : UInt64} (h : ¬ FP.Core.decode FP.Core.b64 x.toNat = .nan) : j_dcmpl x x = 0 := by
  unfold j_dcmpl
  have : FP.dcmp x x = some .eq := by
    show FP.Core.order (FP.Core.decode FP.Core.b64 x.toNat) (FP.Core.decode FP.Core.b64 x.toNat) = some .eq
    generalize FP.Core.decode FP.Core.b64 x.toNat = dd at h
    cases dd with
    | nan => exact absurd rfl h
    | inf s =>
      show some (compare (FP.Core.signed s 1) (FP.Core.signed s 1)) = some .eq
      simp
    | fin s c q =>
      show some (compare (FP.Core.signed s (FP.Core.inUnits c q (min q q))) (FP.Core.signed s (FP.Core.inUnits c q (min q q)))) = some .eq
      simp
  rw [this]
  rfl
theorem dc_0 : j_dcmpl 0 0 = 0 := by
  refine dc_self ?_
  have e : (0 : UInt64).toNat = FP.Core.encode FP.Core.b64 (.fin false 0 (-1074)) := by decide
  rw [e]
  exact dec_nn fo64 (d := .fin false 0 (-1074)) ⟨by decide, by decide⟩
theorem dc_mean {x y : Int32} (hy : ¬ y = 0) : j_dcmpl (FP.ddiv (FP.i2d x) (FP.i2d y)) (FP.ddiv (FP.i2d x) (FP.i2d y)) = 0 := by
  refine dc_self ?_
  obtain ⟨⟨s, c, q, k1, -⟩, l1⟩ := int_fin fo64 (abs32 x)
  obtain ⟨⟨s', c', q', k2, k3⟩, l2⟩ := int_fin fo64 (abs32 y)
  have t1 : (FP.i2d x).toNat = FP.Core.fromInt FP.Core.b64 x.toInt := by
    show (UInt64.ofNat _).toNat = _
    rw [UInt64.toNat_ofNat']
    exact Nat.mod_eq_of_lt (by omega)
  have t2 : (FP.i2d y).toNat = FP.Core.fromInt FP.Core.b64 y.toInt := by
    show (UInt64.ofNat _).toNat = _
    rw [UInt64.toNat_ofNat']
    exact Nat.mod_eq_of_lt (by omega)
  have hc : c' ≠ 0 := k3 (fun h => hy (Int32.toInt_inj.mp h))
  have e : FP.ddiv (FP.i2d x) (FP.i2d y) = UInt64.ofNat (FP.Core.encode FP.Core.b64 (FP.Core.quotient FP.Core.b64 (FP.Core.decode FP.Core.b64 (FP.i2d x).toNat) (FP.Core.decode FP.Core.b64 (FP.i2d y).toNat))) := rfl
  rw [e, t1, t2, k1, k2]
  unfold FP.Core.quotient
  simp only [if_neg hc]
  have hg := gd_ratio fo64 (s := s != s') (a := c) (b := c') (e := q - q')
  have hl := enc_lt fo64 hg
  rw [UInt64.toNat_ofNat', Nat.mod_eq_of_lt (by omega)]
  exact dec_nn fo64 hg
theorem fnd_congr {f h : Nat → Bool} : ∀ n, (∀ i, i < n → f i = h i) → fnd f n = fnd h n := by
  intro n
  induction n with
  | zero => intro _; rfl
  | succ n ih =>
    intro e
    simp only [fnd]
    rw [ih (fun i hi => e i (by omega)), e n (by omega)]
/-- the stored moves of a board, counted up to the limit -/
def w_nst (r : Nat → Int32) (p m : Nat) : Nat := cnt (fun k => decide (r (514 + 124 * p + 2 * (k + 1)) ≠ -1)) m
theorem w_nst_eq {M : Nat → Nat → Int32} {b : Nat} {r : Nat → Int32} {n lim np L d : Nat} {ρ : List Nat} {p : Nat} (c : CF M b r n lim np L d ρ) (hp : p < 2) (hm0 : o_mad r p ≤ lim) (hm1 : o_mad r (1 - p) ≤ lim) (h60 : lim ≤ 60) : o_nst r p = w_nst r p lim := by
  unfold o_nst w_nst
  refine (congrArg (cnt _) (show 60 = lim + (60 - lim) by omega)).trans (cnt_cut _ (fun i h1 h2 h3 => ?_))
  have h3 := of_decide_eq_true h3
  have := (c.2.1.1.2.2.1 p hp (i + 1) (by omega) (by omega) h3).2.1
  omega
theorem w_aw_eq {r : Nat → Int32} {np L d p : Nat} {ρ : List Nat} (hi : i_pst r np L d ρ) : o_ix L (w_aw r p L) = o_aw r p (o_mad r p) L := by
  unfold o_ix o_aw w_aw
  rw [fnd_congr (h := aw_f r p (o_mad r p)) L (fun i hl => ?_)]
  obtain ⟨-, -, -, -, hs, -⟩ := i_ps_bq hi.1 hl
  unfold aw_f
  refine decide_eq_decide.mpr ?_
  rcases hs with hs | hs | hs <;> rw [hs]
  · exact ⟨fun h => ⟨h.1, by decide, h.2.2⟩, fun h => ⟨h.1, by decide, h.2.2⟩⟩
  · exact ⟨fun h => ⟨h.1, by decide, h.2.2⟩, fun h => ⟨h.1, by decide, h.2.2⟩⟩
  · exact ⟨fun h => absurd h.2.1 (by decide), fun h => absurd rfl h.2.1⟩
theorem w_isBoard {g : ev_G} {S : ev_S} {a k n lim np L d : Nat} {r : Nat → Int32} {ρ : List Nat} (c : CF S.1 (ev_b g) r n lim np L d ρ) (hw : w_gm S.1 a r L) (hk : k < 2) {Q : ev_O → ev_S → Prop} (hQ : Q (.inl (some (ev_i 1))) S) : ev_Cv g m_L_isBoard 6 400 [ev_o 9 (ev_b g), ev_o 11 a, ev_i (Int32.ofNat k)] S Q := by
  obtain ⟨hm, hml, h60⟩ := CF_m c hk
  obtain ⟨-, hml1, -⟩ := CF_m c (show 1 - k < 2 by omega)
  have hI := c.1.1
  have h8 := hI.1.1.2.1
  have hn9 := sq_le h8
  have hL := c.1.2.1
  have hsq : i_sq r k n := (hI.2.2 k hk).1
  have hb := hw.2.1 k hk
  have e0 : S.1 a 0 = Int32.ofNat n := (hw.1 0 (by omega)).trans hI.1.1.1
  have e11 : S.1 a 1 = r 1 := hw.1 1 (by omega)
  have e1l : r 1 = Int32.ofNat lim := hI.1.1.2.2.1
  have e4 := hI.1.2.2.2.2.1
  obtain ⟨b1, b2, b3, b6, b7, b8, b9, b10, b11⟩ := hb
  have hb : w_bd S.1 (a + 2 + 7 * k) r k := ⟨b1, b2, b3, b6, b7, b8, b9, b10, b11⟩
  have z0 : (0 : Int32) = Int32.ofNat 0 := rfl
  have z1 : (1 : Int32) = Int32.ofNat 1 := rfl
  have hst : Int32.ofNat (o_nst r k) = Int32.ofNat (w_nst r k lim) := by rw [w_nst_eq c hk hml hml1 h60]
  -- the last comparisons
  have last : ∀ E : Nat, ev_E g m_L_isBoard 6 (E + 5) 326 [some (ev_o 9 (ev_b g)), none, some (ev_i (Int32.ofNat k)), some (ev_o 10 (a + 2 + 7 * k)), none, none, some (ev_i (o_aw r k (o_mad r k) L)), some (ev_i (o_why r k n L)), some (ev_i 1)] [] S Q := fun E => by
    refine sg_L_isBoard_326 (ev_b g) 0 _ _ _ _ _ (j_neg (by decide) ?_)
    refine k_awaited c hk ⟨_, rfl, j_pos rfl ?_⟩
    refine k_reason c hk ⟨_, rfl, j_pos rfl ?_⟩
    refine k_kept c hk ⟨_, rfl, j_pos b11.symm ?_⟩
    refine k_longest c hk ⟨_, rfl, j_pos b8.symm ?_⟩
    refine k_mean c hk (fun hz => ⟨_, rfl, ?_⟩) (fun hz => ⟨_, rfl, ?_⟩)
    · rw [b10]
      exact j_pos hz (j_pos dc_0 hQ)
    · rw [b10, b9]
      exact j_neg hz ⟨mean64 hz, j_pos (dc_mean hz) hQ⟩
  have cs : ∀ E : Nat, ev_E g m_L_isBoard 6 (E + 12) 208 [some (ev_o 9 (ev_b g)), some (ev_o 11 a), some (ev_i (Int32.ofNat k)), some (ev_o 10 (a + 2 + 7 * k)), some (ev_i (Int32.ofNat (w_nst r k lim))), some (ev_i (Int32.ofNat (o_bish r k n 0) - Int32.ofNat (o_bish r k n 1))), some (ev_i (o_aw r k (o_mad r k) L)), some (ev_i (o_why r k n L)), none] [] S Q := fun E => by
    refine sg_L_isBoard_208 (B := E + 5) (ev_b g) a _ _ _ _ _ _ ?_
    refine k_count (s := 0) c hk (by omega) ⟨_, rfl, ?_⟩
    refine w_bishops (p := k) h8 hsq (by decide) b1 _ ⟨_, rfl, j_pos rfl ?_⟩
    refine k_count (s := 1) c hk (by omega) ⟨_, rfl, ?_⟩
    refine w_bishops (p := k) h8 hsq (by decide) b1 _ ⟨_, rfl, j_pos rfl ?_⟩
    refine k_made c hk ⟨_, rfl, j_pos b6.symm ?_⟩
    refine k_turn c hk ⟨o_turn r k n (o_mad r k), rfl, ?_⟩
    by_cases ht : o_turn r k n (o_mad r k) = true
    · have ho : ¬ o_over r k n = true := fun h9 => by simp [o_turn, h9] at ht
      refine j_pos ht (w_isTurn hk h8 hsq hm (by omega) hb e11 _ ⟨_, rfl, j_pos ht ?_⟩)
      refine k_over c hk ⟨o_over r k n, rfl, j_neg ho (w_isOver hk h8 hsq hb e11 _ ⟨_, rfl, j_neg ho ?_⟩)⟩
      refine k_winner c hk ⟨_, rfl, ?_⟩
      refine w_isOver hk h8 hsq hb e11 _ ⟨o_over r k n, rfl, ?_⟩
      refine j_neg ho (j_pos (by unfold o_win; rw [if_neg ho]) (k_stored c hk ⟨_, rfl, j_pos hst (last E)⟩))
    · refine j_neg ht (w_isTurn hk h8 hsq hm (by omega) hb e11 _ ⟨_, rfl, j_neg ht ?_⟩)
      by_cases ho : o_over r k n = true
      · refine k_over c hk ⟨o_over r k n, rfl, j_pos ho (w_isOver hk h8 hsq hb e11 _ ⟨_, rfl, j_pos ho ?_⟩)⟩
        refine k_winner c hk ⟨_, rfl, ?_⟩
        refine w_isOver hk h8 hsq hb e11 _ ⟨o_over r k n, rfl, ?_⟩
        have hwin : o_win r k n = (if Int32.ofNat (o_bish r k n 0) - Int32.ofNat (o_bish r k n 1) = 0 then -1 else if Int32.ofNat (o_bish r k n 0) - Int32.ofNat (o_bish r k n 1) ≤ 0 then 1 else 0) := by unfold o_win; rw [if_pos ho]
        refine j_pos ho ⟨fun h5 => j_pos (by rw [hwin, if_pos h5]) (k_stored c hk ⟨_, rfl, j_pos hst (last E)⟩), fun h5 => ⟨fun h6 => j_pos (by rw [hwin, if_neg h5, if_pos h6]) (k_stored c hk ⟨_, rfl, j_pos hst (last E)⟩), fun h6 => j_pos (by rw [hwin, if_neg h5, if_neg h6]) (k_stored c hk ⟨_, rfl, j_pos hst (last E)⟩)⟩⟩
      · refine k_over c hk ⟨o_over r k n, rfl, j_neg ho (w_isOver hk h8 hsq hb e11 _ ⟨_, rfl, j_neg ho ?_⟩)⟩
        refine k_winner c hk ⟨_, rfl, ?_⟩
        refine w_isOver hk h8 hsq hb e11 _ ⟨o_over r k n, rfl, ?_⟩
        refine j_neg ho (j_pos (by unfold o_win; rw [if_neg ho]) (k_stored c hk ⟨_, rfl, j_pos hst (last E)⟩))
  -- the moves
  have mvs := dn (n := o_mad r k + 1) (P := fun i => 1 ≤ i → ev_E g m_L_isBoard 6 (20 + 4 * (o_mad r k + 1 - i) + 4) 93 [some (ev_o 9 (ev_b g)), some (ev_o 11 a), some (ev_i (Int32.ofNat k)), some (ev_o 10 (a + 2 + 7 * k)), some (ev_i (Int32.ofNat (w_nst r k lim))), some (ev_i (Int32.ofNat i)), none, none, none] [] S Q) ?_ ?_ 1 (by omega) (Nat.le_refl _)
  · -- the squares, then the stored moves
    have sts := dn (n := lim + 1) (P := fun i => 1 ≤ i → ∀ E : Nat, ev_E g m_L_isBoard 6 (20 + 4 * (o_mad r k + 1 - 1) + 4) 55 [some (ev_o 9 (ev_b g)), some (ev_o 11 a), some (ev_i (Int32.ofNat k)), some (ev_o 10 (a + 2 + 7 * k)), some (ev_i (Int32.ofNat (w_nst r k (i - 1)))), some (ev_i (Int32.ofNat i)), none, none, none] [] S Q) ?_ ?_ 1 (by omega) (Nat.le_refl _) 0
    · have sqs := dn (n := n * n) (P := fun i => ev_E g m_L_isBoard 6 (20 + 4 * (o_mad r k + 1 - 1) + 4 + (n * n - i)) 13 [some (ev_o 9 (ev_b g)), some (ev_o 11 a), some (ev_i (Int32.ofNat k)), some (ev_o 10 (a + 2 + 7 * k)), some (ev_i (Int32.ofNat 0)), some (ev_i (Int32.ofNat i)), none, none, none] [] S Q) ?_ ?_ 0 (Nat.zero_le _)
      · refine sg_L_isBoard_0 (ev_b g) a _ ⟨(n_vp (by omega) (by omega)).mpr trivial, ?_⟩
        rw [w_bdA hk]
        exact ev_E.more (by omega) sqs
      · rw [Nat.sub_self, Nat.add_zero, show 20 + 4 * (o_mad r k + 1 - 1) + 4 = (20 + 4 * (o_mad r k + 1 - 1) + 3) + 1 by omega]
        refine sg_L_isBoard_13 (ev_b g) a _ _ _ _ ?_
        rw [e0, n_mul, n_le (by omega) (by omega)]
        exact j_pos (Nat.le_refl _) sts
      · intro i hi ih
        rw [show 20 + 4 * (o_mad r k + 1 - 1) + 4 + (n * n - i) = (20 + 4 * (o_mad r k + 1 - 1) + 4 + (n * n - (i + 1))) + 1 by omega]
        refine sg_L_isBoard_13 (ev_b g) a _ _ _ _ ?_
        rw [e0, n_mul, n_le (by omega) (by omega), n_inc]
        refine j_neg (by omega) (k_owner c hk hi ⟨_, rfl, (n_vp (by omega) (by omega)).mpr trivial, ?_⟩)
        rw [n_c (by omega), b1 i (by omega)]
        exact j_pos rfl ih
    · intro _ _
      refine sg_L_isBoard_55 (ev_b g) a _ _ _ _ ?_
      rw [e11, e1l, n_lt (by omega) (by omega), Nat.add_sub_cancel]
      exact j_pos (by omega) mvs
    · intro i hi ih h1 _
      refine sg_L_isBoard_55 (ev_b g) a _ _ _ _ ?_
      rw [e11, e1l, n_lt (by omega) (by omega), n_inc, ra_0, n_c (by omega), (b3 i (by omega)).1]
      have nx := ih (by omega) 0
      have hsg : r (514 + 124 * k + 2 * i) = -1 ∨ 0 ≤ (r (514 + 124 * k + 2 * i)).toInt := by
        rcases (i_dk_p hI.1 hk).2.2.2.2.2.1 i (by omega) with h9 | ⟨f', t', hf', -, -, e', -⟩
        · exact Or.inl h9
        · right
          rw [e', n_i (by omega)]
          omega
      rw [n_neg1 hsg]
      have hi1 : i - 1 + 1 = i := by omega
      refine j_neg (by omega) ⟨(n_vp (by omega) (by omega)).mpr trivial, fun hz => ?_, fun hz => ?_⟩
      · refine sg_L_isBoard_84 (ev_b g) a _ _ _ _ ?_
        rw [n_inc]
        have e9 : w_nst r k (i + 1 - 1) = w_nst r k (i - 1) := by
          unfold w_nst
          rw [show i + 1 - 1 = i - 1 + 1 by omega]
          exact cnt_f (by
            rw [hi1]
            intro q
            exact (of_decide_eq_true q) hz)
        rw [← e9]
        exact nx
      · refine sg_L_isBoard_84 (ev_b g) a _ _ _ _ ?_
        rw [n_inc]
        have e9 : w_nst r k (i + 1 - 1) = w_nst r k (i - 1) + 1 := by
          unfold w_nst
          rw [show i + 1 - 1 = i - 1 + 1 by omega]
          exact cnt_t (by
            rw [hi1]
            exact decide_eq_true hz)
        rw [← e9]
        exact nx
  · -- behind the last move
    intro _
    rw [Nat.sub_self]
    refine sg_L_isBoard_93 (B := 20) (ev_b g) a _ _ _ _ ?_
    rw [b6, hm, n_lt (by omega) (by omega)]
    refine j_pos (by omega) ?_
    refine w_bishops (p := k) h8 hsq (by decide) b1 _ ⟨_, rfl, ?_⟩
    refine w_bishops (p := k) h8 hsq (by decide) b1 _ ⟨_, rfl, ?_⟩
    refine w_awaited hk (by omega) e4 hm (by omega) hw _ ⟨_, rfl, ?_⟩
    rw [w_aw_eq hI.2.1]
    have fin := cs 12
    unfold o_why at fin
    refine w_isTurn hk h8 hsq hm (by omega) hb e11 _ ⟨_, rfl, fun ht => ?_, fun ht => ?_⟩
    · rw [if_pos ht] at fin
      exact fin
    rw [if_neg ht] at fin
    refine w_isOver hk h8 hsq hb e11 _ ⟨_, rfl, fun ho => ?_, fun ho => ?_⟩
    · rw [if_pos ho] at fin
      exact fin
    rw [if_neg ho] at fin
    by_cases ha : o_aw r k (o_mad r k) L = -1
    · rw [if_pos ha] at fin
      exact j_neg (by rw [ha]; decide) fin
    · rw [if_neg ha] at fin
      obtain ⟨l, el, hl, -⟩ := o_aw_lt (by omega) ha
      rw [el] at fin ⊢
      rw [n_c (by omega)] at fin
      refine j_pos (by rw [n_nn (by omega)]; trivial) ⟨(n_vp (by omega) (by omega)).mpr trivial, ?_⟩
      rw [n_c (by omega), (hw.2.2.2.1 l hl).2.2.2.2.2.2.1]
      exact fin
  · intro i hi ih h1
    obtain ⟨j, rfl⟩ : ∃ j, i = j + 1 := ⟨i - 1, by omega⟩
    obtain ⟨c1, c2⟩ := b2 j (by omega)
    rw [show 20 + 4 * (o_mad r k + 1 - (j + 1)) + 4 = (20 + 4 * (o_mad r k + 1 - (j + 1 + 1)) + 4) + 4 by omega]
    refine sg_L_isBoard_93 (ev_b g) a _ _ _ _ ?_
    rw [b6, hm, n_lt (by omega) (by omega), n_inc]
    refine j_neg (by omega) (k_from c hk (by omega) ⟨_, rfl, (n_vp (by omega) (by omega)).mpr trivial, ?_⟩)
    rw [n_c (by omega), c1]
    refine j_pos rfl (k_to c hk (by omega) ⟨_, rfl, ?_⟩)
    rw [c2]
    exact j_pos rfl (ih (by omega))
