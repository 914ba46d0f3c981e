/-! ===== the law's loop ===== -/
theorem law_case {g : ev_G} {B k0 a m o1 o2 : Nat} {u5 : Int32} {S : ev_S} {Q : ev_O → ev_S → Prop} (c : CS g B k0 a m o1 o2 u5 S Q) (hend : (Int32.ofNat (ev_sl g) - 7 < u5) → Q (.inl (some (ev_i 1))) S) (hv : vp_in u5 (ev_sl g)) : KA g B 28 k0 a m o1 o2 u5 S Q :=
  sg_L_law_28 k0 a m o1 o2 u5 ⟨hend, fun _ => ⟨hv, ⟨fun _ => w_288 c, fun _ => ⟨fun _ => w_392 c, fun _ => ⟨fun _ => w_448 c, fun _ => ⟨fun _ => w_461 c, fun _ => ⟨fun _ => w_474 c, fun _ => ⟨fun _ => w_487 c, fun _ => ⟨fun _ => w_500 c, fun _ => ⟨fun _ => w_513 c, fun _ => ⟨fun _ => w_526 c, fun _ => ⟨fun _ => w_539 c, fun _ => ⟨fun _ => w_552 c, fun _ => ⟨fun _ => w_620 c, fun _ => ⟨fun _ => w_688 c, fun _ => ⟨fun _ => w_744 c, fun _ => ⟨fun _ => w_807 c, fun _ => ⟨fun _ => w_870 c, fun _ => ⟨fun _ => w_926 c, fun _ => ⟨fun _ => w_1013 c, fun _ => ⟨fun _ => w_1081 c, fun _ => ⟨fun _ => w_1149 c, fun _ => ⟨fun _ => w_1217 c, fun _ => ⟨fun _ => w_1273 c, fun _ => ⟨fun _ => w_1286 c, fun _ => ⟨fun _ => w_1299 c, fun _ => ⟨fun _ => w_1367 c, fun _ => ⟨fun _ => w_1423 c, fun _ => ⟨fun _ => w_1491 c, fun _ => ⟨fun _ => w_1559 c, fun _ => ⟨fun _ => w_1572 c, fun _ => ⟨fun _ => w_1628 c, fun _ => ⟨fun _ => w_1684 c, fun _ => ⟨fun _ => w_1747 c, fun _ => ⟨fun _ => w_1803 c, fun _ => ⟨fun _ => w_1859 c, fun _ => ⟨fun _ => w_1915 c, fun _ => ⟨fun _ => w_1928 c, fun _ => ⟨fun _ => w_1984 c, fun _ => ⟨fun _ => w_2040 c, fun _ => ⟨fun _ => w_2117 c, fun _ => ⟨fun _ => w_2160 c, fun _ => ⟨fun _ => w_2173 c, fun _ => ⟨fun _ => w_2229 c, fun _ => ⟨fun _ => w_2285 c, fun _ => ⟨fun _ => w_2298 c, fun _ => ⟨fun _ => w_2354 c, fun _ => ⟨fun _ => w_2446 c, fun _ => ⟨fun _ => w_2564 c, fun _ => ⟨fun _ => w_2632 c, fun _ => ⟨fun _ => w_2688 c, fun _ => ⟨fun _ => w_2756 c, fun _ => ⟨fun _ => w_2836 c, fun _ => ⟨fun _ => w_2892 c, fun _ => ⟨fun _ => w_2948 c, fun _ => ⟨fun _ => w_2973 c, fun _ => ⟨fun _ => w_2986 c, fun _ => ⟨fun _ => w_3030 c, fun _ => ⟨fun _ => w_3086 c, fun _ => c.k2 _ c.hi⟩⟩⟩⟩⟩⟩⟩⟩⟩⟩⟩⟩⟩⟩⟩⟩⟩⟩⟩⟩⟩⟩⟩⟩⟩⟩⟩⟩⟩⟩⟩⟩⟩⟩⟩⟩⟩⟩⟩⟩⟩⟩⟩⟩⟩⟩⟩⟩⟩⟩⟩⟩⟩⟩⟩⟩⟩⟩⟩
theorem sl_7 {l i : Nat} (hl : l < 2147483000) (hi : i < 2147483000) : (Int32.ofNat l - 7 < Int32.ofNat i) = (l < i + 7) := by
  have i7 : (7 : Int32) = Int32.ofNat 7 := rfl
  by_cases h : 7 ≤ l
  · rw [i7, n_sub _ _ h, n_lt (by omega) (by omega)]
    exact propext ⟨fun hh => by omega, fun hh => by omega⟩
  · have hx : (Int32.ofNat l - 7).toInt < 0 := by
      have hl' : l = 0 ∨ l = 1 ∨ l = 2 ∨ l = 3 ∨ l = 4 ∨ l = 5 ∨ l = 6 := by omega
      rcases hl' with rfl | rfl | rfl | rfl | rfl | rfl | rfl <;> decide
    rw [z_lt, n_i (by omega)]
    exact propext ⟨fun _ => by omega, fun _ => by omega⟩
theorem law_loop {g : ev_G} {k0 a m o1 o2 : Nat} {Q : ev_O → ev_S → Prop} (hm : m = a + 505) (hsl : ev_sl g < 2147480000) (hQ : ∀ z, Q (.inl (some (ev_i 1))) z) : ∀ (k i : Nat) (S : ev_S), ev_sl g ≤ i + 7 * k → i ≤ ev_sl g → INV S.1 a m → ev_E g m_L_law 52 (2 * k + 2) 28 [some (ev_x 0 k0), some (ev_o 9 a), some (ev_o 10 m), some (ev_o 21 o1), some (ev_o 22 o2), some (ev_i (Int32.ofNat i)), none, none, none, none] [] S Q := by
  intro k
  induction k with
  | zero =>
    intro i S h1 h2 hi
    refine sg_L_law_28 (B := 0) k0 a m o1 o2 _ (j_pos ?_ (hQ S))
    rw [sl_7 (by omega) (by omega)]
    omega
  | succ k ih =>
    intro i S h1 h2 hi
    by_cases hlt : ev_sl g < i + 7
    · refine sg_L_law_28 (B := 2 * (k + 1)) k0 a m o1 o2 _ (j_pos ?_ (hQ S))
      rw [sl_7 (by omega) (by omega)]
      exact hlt
    · have vp : ∀ j : Nat, j < 7 → vp_in (Int32.ofNat i + Int32.ofNat j) (ev_sl g) := fun j hj => by
        rw [n_add]
        exact (n_vp (by omega) (by omega)).mpr trivial
      have c : CS g (2 * k + 2) k0 a m o1 o2 (Int32.ofNat i) S Q := ⟨hm, hi, ⟨vp 1 (by omega), vp 2 (by omega), vp 3 (by omega), vp 4 (by omega), vp 5 (by omega), vp 6 (by omega)⟩, fun z hz => by
        refine sg_L_law_3142 (B := 2 * k) k0 a m o1 o2 _ ?_
        have i7 : (7 : Int32) = Int32.ofNat 7 := rfl
        rw [i7, n_add]
        exact ih (i + 7) z (by omega) (by omega) hz⟩
      refine law_case c (fun h => ?_) ((n_vp (by omega) (by omega)).mpr trivial)
      rw [sl_7 (by omega) (by omega)] at h
      exact absurd h hlt
