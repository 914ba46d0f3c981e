/-! ===== small words of the listing ===== -/
def j_ishr (x y : Int32) : Int32 := x >>> (y &&& 31)
def j_iushr (x y : Int32) : Int32 := (x.toUInt32 >>> (y.toUInt32 &&& Int32.toUInt32 31)).toInt32
def j_dcmpl (x y : UInt64) : Int32 := Op.cmpValue (FP.dcmp x y) .l
def j_byte (k : Nat) (i : Int32) : Int32 := (ev_bt.getD k []).getD i.toNatClampNeg 0
theorem j_in {n : Nat} {x : Int32} (h1 : ¬ x < 0) (h2 : ¬ Int32.ofNat n ≤ x) : vp_in x n := by
  unfold vp_in
  rintro (h | h)
  · exact h1 h
  · by_cases hn : n < 2147483648
    · apply h2
      rw [Int32.le_iff_toInt_le, Int32.toInt_ofNat_of_lt hn]
      rw [Int32.lt_iff_toInt_lt] at h1
      have e0 : (0 : Int32).toInt = 0 := rfl
      rw [e0] at h1
      have e2 : x.toNatClampNeg = x.toInt.toNat := rfl
      rw [e2] at h
      omega
    · have := Int32.toNatClampNeg_lt x
      omega
def j_at (r : Nat → Int32) (n : Nat) (x : Int32) : Int32 := if x < 0 then -1 else if Int32.ofNat n ≤ x then -1 else r x.toNatClampNeg
def j_put (S : ev_S) (a n : Nat) (x v : Int32) : ev_S := if x < 0 then S else if Int32.ofNat n ≤ x then S else ev_up S a x.toNatClampNeg v
theorem j_out {x lo hi : Int32} : True := trivial
set_option maxHeartbeats 4000000 in
set_option maxRecDepth 100000 in
theorem sg_X9_at_0 {g : ev_G} {S : ev_S} {Q : ev_O → ev_S → Prop} (n0 r0 : Nat) (x1 : Int32) (h0 : ¬ (x1 < 0) → ¬ ((Int32.ofNat n0) ≤ x1) → vp_in x1 n0) (hQ : if x1 < 0 then (
    Q (.inl (some (ev_i (-1)))) S)
  else (
    if (Int32.ofNat n0) ≤ x1 then (
      Q (.inl (some (ev_i (-1)))) S)
    else (
      Q (.inl (some (ev_i (S.1 r0 x1.toNatClampNeg)))) S))) : ev_Cv g m_X9_at 1 0 [ev_y n0 r0, ev_i x1] S Q := by
  refine ev_enter (by decide) rfl rfl (Nat.le_of_ble_eq_true rfl) ?_
  show ev_E g m_X9_at 1 0 0 [some (ev_y n0 r0), some (ev_i x1)] [] S Q
  refine ev_iload_n (x1) dX9_at_0 rfl ?_
  refine ev_if_lt 16 dX9_at_1 (by decide) (fun c1 => ?_) (fun c1 => ?_)
  · rw [if_pos c1] at hQ
    refine ev_iconst (-1) dX9_at_16 rfl ?_
    exact ev_ireturn .int dX9_at_17 rfl rfl hQ
  · rw [if_neg c1] at hQ
    refine ev_iload_n (x1) dX9_at_4 rfl ?_
    refine ev_aload_n (ev_y n0 r0) dX9_at_5 rfl rfl ?_
    refine ev_alen (Int32.ofNat n0) dX9_at_6 rfl ?_
    refine ev_icmp_ge 16 dX9_at_7 (by decide) (fun c2 => ?_) (fun c2 => ?_)
    · rw [if_pos c2] at hQ
      refine ev_iconst (-1) dX9_at_16 rfl ?_
      exact ev_ireturn .int dX9_at_17 rfl rfl hQ
    · rw [if_neg c2] at hQ
      refine ev_aload_n (ev_y n0 r0) dX9_at_10 rfl rfl ?_
      refine ev_iload_n (x1) dX9_at_11 rfl ?_
      refine ev_iaload dX9_at_12 (h0 c1 c2) ?_
      refine ev_goto 17 dX9_at_13 (by decide) ?_
      exact ev_ireturn .int dX9_at_17 rfl rfl hQ
set_option maxHeartbeats 4000000 in
set_option maxRecDepth 100000 in
theorem sg_X9_put_0 {g : ev_G} {S : ev_S} {Q : ev_O → ev_S → Prop} (n0 r0 : Nat) (x1 : Int32) (x2 : Int32) (h0 : ¬ (x1 < 0) → ¬ ((Int32.ofNat n0) ≤ x1) → vp_in x1 n0) (hQ : if x1 < 0 then (
    Q (.inl none) S)
  else (
    if (Int32.ofNat n0) ≤ x1 then (
      Q (.inl none) S)
    else (
      ∀ S1 : ev_S, S1 = (ev_up S r0 x1.toNatClampNeg x2) → (
        Q (.inl none) S1)))) : ev_Cv g m_X9_put 1 0 [ev_y n0 r0, ev_i x1, ev_i x2] S Q := by
  refine ev_enter (by decide) rfl rfl (Nat.le_of_ble_eq_true rfl) ?_
  show ev_E g m_X9_put 1 0 0 [some (ev_y n0 r0), some (ev_i x1), some (ev_i x2)] [] S Q
  refine ev_iload_n (x1) dX9_put_0 rfl ?_
  refine ev_if_lt 14 dX9_put_1 (by decide) (fun c1 => ?_) (fun c1 => ?_)
  · rw [if_pos c1] at hQ
    exact ev_return dX9_put_14 rfl hQ
  · rw [if_neg c1] at hQ
    refine ev_iload_n (x1) dX9_put_4 rfl ?_
    refine ev_aload_n (ev_y n0 r0) dX9_put_5 rfl rfl ?_
    refine ev_alen (Int32.ofNat n0) dX9_put_6 rfl ?_
    refine ev_icmp_ge 14 dX9_put_7 (by decide) (fun c2 => ?_) (fun c2 => ?_)
    · rw [if_pos c2] at hQ
      exact ev_return dX9_put_14 rfl hQ
    · rw [if_neg c2] at hQ
      refine ev_aload_n (ev_y n0 r0) dX9_put_10 rfl rfl ?_
      refine ev_iload_n (x1) dX9_put_11 rfl ?_
      refine ev_iload_n (x2) dX9_put_12 rfl ?_
      refine ev_iastore dX9_put_13 (h0 c1 c2) ?_
      obtain ⟨S1, hS1⟩ : ∃ z, z = (ev_up S r0 x1.toNatClampNeg x2) := ⟨_, rfl⟩
      refine ev_E.goal (pc' := 14) (L' := [some (ev_y n0 r0), some (ev_i x1), some (ev_i x2)]) (K' := []) (S' := S1) ?_ rfl rfl rfl hS1
      replace hQ := hQ S1 hS1
      exact ev_return dX9_put_14 rfl hQ
set_option maxHeartbeats 4000000 in
set_option maxRecDepth 100000 in
theorem sg_X9_copyRow_0 {g : ev_G} {S : ev_S} {Q : ev_O → ev_S → Prop} (n0 r0 : Nat) (n1 r1 : Nat) (h0 : ¬ (ev_min (Int32.ofNat n0) (Int32.ofNat n1)) < 0) (h1 : (ev_min (Int32.ofNat n0) (Int32.ofNat n1)).toNatClampNeg ≤ n0) (h2 : (ev_min (Int32.ofNat n0) (Int32.ofNat n1)).toNatClampNeg ≤ n1) (hQ : ∀ S1 : ev_S, S1 = (ev_ur S r1 (va_cpy (S.1 r0) (S.1 r1) 0 0 (ev_min (Int32.ofNat n0) (Int32.ofNat n1)).toNatClampNeg)) → (
    Q (.inl none) S1)) : ev_Cv g m_X9_copyRow 1 0 [ev_y n0 r0, ev_y n1 r1] S Q := by
  refine ev_enter (by decide) rfl rfl (Nat.le_of_ble_eq_true rfl) ?_
  show ev_E g m_X9_copyRow 1 0 0 [some (ev_y n0 r0), some (ev_y n1 r1)] [] S Q
  refine ev_aload_n (ev_y n0 r0) dX9_copyRow_0 rfl rfl ?_
  refine ev_iconst (0) dX9_copyRow_1 rfl ?_
  refine ev_aload_n (ev_y n1 r1) dX9_copyRow_2 rfl rfl ?_
  refine ev_iconst (0) dX9_copyRow_3 rfl ?_
  refine ev_aload_n (ev_y n0 r0) dX9_copyRow_4 rfl rfl ?_
  refine ev_alen (Int32.ofNat n0) dX9_copyRow_5 rfl ?_
  refine ev_aload_n (ev_y n1 r1) dX9_copyRow_6 rfl rfl ?_
  refine ev_alen (Int32.ofNat n1) dX9_copyRow_7 rfl ?_
  refine ev_mathMin dX9_copyRow_8 kw_579 kw_424 kw_31 kw_425 (Nat.le_of_ble_eq_true rfl) ?_
  refine ev_copy dX9_copyRow_11 kw_580 kw_582 kw_581 kw_33 h0 h1 h2 (Nat.le_of_ble_eq_true rfl) ?_
  obtain ⟨S1, hS1⟩ : ∃ z, z = (ev_ur S r1 (va_cpy (S.1 r0) (S.1 r1) 0 0 (ev_min (Int32.ofNat n0) (Int32.ofNat n1)).toNatClampNeg)) := ⟨_, rfl⟩
  refine ev_E.goal (pc' := 14) (L' := [some (ev_y n0 r0), some (ev_y n1 r1)]) (K' := []) (S' := S1) ?_ rfl rfl rfl hS1
  replace hQ := hQ S1 hS1
  exact ev_return dX9_copyRow_14 rfl hQ
set_option maxHeartbeats 4000000 in
set_option maxRecDepth 100000 in
theorem sg_J7_fill_53178_0 {g : ev_G} {S : ev_S} {Q : ev_O → ev_S → Prop} (n0 r0 : Nat) (x1 : Int32) (hQ : ev_E g m_J7_fill_53178 1 0 5 [some (ev_y n0 r0), some (ev_i x1), some (ev_i 0), some (ev_i (Int32.ofNat n0))] [] S Q) : ev_Cv g m_J7_fill_53178 1 0 [ev_y n0 r0, ev_i x1] S Q := by
  refine ev_enter (by decide) rfl rfl (Nat.le_of_ble_eq_true rfl) ?_
  show ev_E g m_J7_fill_53178 1 0 0 [some (ev_y n0 r0), some (ev_i x1), none, none] [] S Q
  refine ev_iconst (0) dJ7_fill_53178_0 rfl ?_
  refine ev_istore_n dJ7_fill_53178_1 (Nat.le_of_ble_eq_true rfl) (ev_hw rfl) ?_
  show ev_E g m_J7_fill_53178 1 0 2 [some (ev_y n0 r0), some (ev_i x1), some (ev_i 0), none] [] S Q
  refine ev_aload_n (ev_y n0 r0) dJ7_fill_53178_2 rfl rfl ?_
  refine ev_alen (Int32.ofNat n0) dJ7_fill_53178_3 rfl ?_
  refine ev_istore_n dJ7_fill_53178_4 (Nat.le_of_ble_eq_true rfl) (ev_hw rfl) ?_
  show ev_E g m_J7_fill_53178 1 0 5 [some (ev_y n0 r0), some (ev_i x1), some (ev_i 0), some (ev_i (Int32.ofNat n0))] [] S Q
  exact hQ
set_option maxHeartbeats 4000000 in
set_option maxRecDepth 100000 in
theorem sg_J7_fill_53178_5 {g : ev_G} {S : ev_S} {Q : ev_O → ev_S → Prop} (n0 r0 : Nat) (x1 x2 x3 : Int32) (h0 : ¬ (x3 ≤ x2) → vp_in x2 n0) (hQ : if x3 ≤ x2 then (
    Q (.inl none) S)
  else (
    ∀ S1 : ev_S, S1 = (ev_up S r0 x2.toNatClampNeg x1) → (
      ev_E g m_J7_fill_53178 1 0 5 [some (ev_y n0 r0), some (ev_i x1), some (ev_i (x2 + 1)), some (ev_i x3)] [] S1 Q))) : ev_E g m_J7_fill_53178 1 0 5 [some (ev_y n0 r0), some (ev_i x1), some (ev_i x2), some (ev_i x3)] [] S Q := by
  refine ev_iload_n (x2) dJ7_fill_53178_5 rfl ?_
  refine ev_iload_n (x3) dJ7_fill_53178_6 rfl ?_
  refine ev_icmp_ge 20 dJ7_fill_53178_7 (by decide) (fun c1 => ?_) (fun c1 => ?_)
  · rw [if_pos c1] at hQ
    exact ev_return dJ7_fill_53178_20 rfl hQ
  · rw [if_neg c1] at hQ
    refine ev_aload_n (ev_y n0 r0) dJ7_fill_53178_10 rfl rfl ?_
    refine ev_iload_n (x2) dJ7_fill_53178_11 rfl ?_
    refine ev_iload_n (x1) dJ7_fill_53178_12 rfl ?_
    refine ev_iastore dJ7_fill_53178_13 (h0 c1) ?_
    obtain ⟨S1, hS1⟩ : ∃ z, z = (ev_up S r0 x2.toNatClampNeg x1) := ⟨_, rfl⟩
    refine ev_E.goal (pc' := 14) (L' := [some (ev_y n0 r0), some (ev_i x1), some (ev_i x2), some (ev_i x3)]) (K' := []) (S' := S1) ?_ rfl rfl rfl hS1
    replace hQ := hQ S1 hS1
    refine ev_iinc x2 (1) dJ7_fill_53178_14 rfl (by decide) (ev_hw rfl) ?_
    show ev_E g m_J7_fill_53178 1 0 17 [some (ev_y n0 r0), some (ev_i x1), some (ev_i (x2 + 1)), some (ev_i x3)] [] S1 Q
    refine ev_goto 5 dJ7_fill_53178_17 (by decide) ?_
    exact hQ
theorem sp_X9_at {g : ev_G} {S : ev_S} (n0 r0 : Nat) (x1 : Int32) : ev_Fn g m_X9_at 1 [ev_y n0 r0, ev_i x1] S (some (ev_i (j_at (S.1 r0) n0 x1))) S := by
  intro Q hQ
  refine sg_X9_at_0 n0 r0 x1 j_in ?_
  unfold j_at at hQ
  by_cases c1 : x1 < 0
  · rw [if_pos c1] at hQ ⊢; exact hQ
  · rw [if_neg c1] at hQ ⊢
    by_cases c2 : Int32.ofNat n0 ≤ x1
    · rw [if_pos c2] at hQ ⊢; exact hQ
    · rw [if_neg c2] at hQ ⊢; exact hQ
theorem sp_X9_put {g : ev_G} {S : ev_S} (n0 r0 : Nat) (x1 x2 : Int32) : ev_Fn g m_X9_put 1 [ev_y n0 r0, ev_i x1, ev_i x2] S none (j_put S r0 n0 x1 x2) := by
  intro Q hQ
  refine sg_X9_put_0 n0 r0 x1 x2 j_in ?_
  unfold j_put at hQ
  by_cases c1 : x1 < 0
  · rw [if_pos c1] at hQ ⊢; exact hQ
  · rw [if_neg c1] at hQ ⊢
    by_cases c2 : Int32.ofNat n0 ≤ x1
    · rw [if_pos c2] at hQ ⊢; exact hQ
    · rw [if_neg c2] at hQ ⊢
      intro S1 h1
      subst h1
      exact hQ
/-- the first n of a row onto another's -/
def j_copy (S : ev_S) (n r0 r1 : Nat) : ev_S := ev_ur S r1 (fun k => if k < n then S.1 r0 k else S.1 r1 k)
theorem j_clamp {n : Nat} (h : n < 2147483648) : (Int32.ofNat n).toNatClampNeg = n := by
  have e2 : (Int32.ofNat n).toNatClampNeg = (Int32.ofNat n).toInt.toNat := rfl
  rw [e2, Int32.toInt_ofNat_of_lt h]
  rfl
theorem j_nonneg {n : Nat} (h : n < 2147483648) : ¬ Int32.ofNat n < 0 := by
  rw [Int32.lt_iff_toInt_lt, Int32.toInt_ofNat_of_lt h]
  have : (0 : Int32).toInt = 0 := rfl
  omega
theorem j_minself (x : Int32) : ev_min x x = x := by
  unfold ev_min
  split <;> rfl
theorem sp_X9_copyRow {g : ev_G} {S : ev_S} (n0 r0 n1 r1 : Nat) (h : n0 = n1 ∧ n0 < 2147483648) : ev_Fn g m_X9_copyRow 1 [ev_y n0 r0, ev_y n1 r1] S none (j_copy S n0 r0 r1) := by
  obtain ⟨rfl, hn⟩ := h
  intro Q hQ
  refine sg_X9_copyRow_0 n0 r0 n0 r1 ?_ ?_ ?_ ?_
  · rw [j_minself]; exact j_nonneg hn
  · rw [j_minself, j_clamp hn]; exact Nat.le_refl _
  · rw [j_minself, j_clamp hn]; exact Nat.le_refl _
  · intro S1 h1
    subst h1
    have e : ev_ur S r1 (va_cpy (S.1 r0) (S.1 r1) 0 0 (ev_min (Int32.ofNat n0) (Int32.ofNat n0)).toNatClampNeg) = j_copy S n0 r0 r1 := by
      rw [j_minself, j_clamp hn]
      unfold j_copy
      congr 1
      funext k
      simp [va_cpy]
    rw [e]
    exact hQ
/-- a row's first n numbers are v -/
def j_fill (S : ev_S) (n r : Nat) (v : Int32) : ev_S := ev_ur S r (fun k => if k < n then v else S.1 r k)
theorem j_lt {i n : Nat} (hi : i < 2147483648) (hn : n < 2147483648) : (Int32.ofNat n ≤ Int32.ofNat i) ↔ n ≤ i := by
  rw [Int32.le_iff_toInt_le, Int32.toInt_ofNat_of_lt hi, Int32.toInt_ofNat_of_lt hn]
  omega
theorem j_succ (i : Nat) : Int32.ofNat i + 1 = Int32.ofNat (i + 1) := (Int32.ofNat_add i 1).symm
theorem j_ur_ur (S : ev_S) (a : Nat) (r r' : Nat → Int32) : ev_ur (ev_ur S a r) a r' = ev_ur S a r' := by
  unfold ev_ur
  congr 1
  funext b
  simp only [va_up]
  split <;> rfl
theorem j_ur_at (S : ev_S) (a : Nat) (r : Nat → Int32) : (ev_ur S a r).1 a = r := va_up_self _ _ _
theorem j_ur_self (S : ev_S) (a : Nat) : ev_ur S a (S.1 a) = S := by
  unfold ev_ur
  have : va_up S.1 a (S.1 a) = S.1 := by
    funext b
    simp only [va_up]
    split
    · next h => rw [h]
    · rfl
  rw [this]
theorem sp_J7_fill_53178 {g : ev_G} {S : ev_S} (n0 r0 : Nat) (x1 : Int32) (hn : n0 < 2147483647) : ev_Fn g m_J7_fill_53178 1 [ev_y n0 r0, ev_i x1] S none (j_fill S n0 r0 x1) := by
  intro Q hQ
  refine sg_J7_fill_53178_0 n0 r0 x1 ?_
  have key : ∀ (k i : Nat) (S' : ev_S), k + i = n0 → S' = ev_ur S r0 (fun j => if j < i then x1 else S.1 r0 j) → ev_E g m_J7_fill_53178 1 0 5 [some (ev_y n0 r0), some (ev_i x1), some (ev_i (Int32.ofNat i)), some (ev_i (Int32.ofNat n0))] [] S' Q := by
    intro k
    induction k with
    | zero =>
      intro i S' hi hS
      refine sg_J7_fill_53178_5 n0 r0 x1 (Int32.ofNat i) (Int32.ofNat n0) ?_ ?_
      · intro c
        exact absurd ((j_lt (by omega) (by omega)).mpr (by omega)) c
      · rw [if_pos ((j_lt (by omega) (by omega)).mpr (by omega))]
        rw [hS, show i = n0 by omega]
        exact hQ
    | succ k ih =>
      intro i S' hi hS
      have hlt : ¬ Int32.ofNat n0 ≤ Int32.ofNat i := fun q => by have := (j_lt (by omega) (by omega)).mp q; omega
      refine sg_J7_fill_53178_5 n0 r0 x1 (Int32.ofNat i) (Int32.ofNat n0) (fun c => j_in (j_nonneg (by omega)) c) ?_
      rw [if_neg hlt]
      intro S1 h1
      rw [j_succ]
      refine ih (i + 1) S1 (by omega) ?_
      subst h1
      subst hS
      show ev_ur _ _ _ = _
      rw [j_ur_ur, j_ur_at, j_clamp (by omega)]
      congr 1
      funext j
      simp only [upd]
      by_cases hj : j = i
      · rw [if_pos hj, if_pos (by omega)]
      · rw [if_neg hj]
        by_cases hj2 : j < i
        · rw [if_pos hj2, if_pos (by omega)]
        · rw [if_neg hj2, if_neg (by omega)]
  refine key n0 0 S (by omega) ?_
  simp only [Nat.not_lt_zero, if_false]
  exact (j_ur_self S r0).symm
