/-! ===== numbers, rows, memory: what every later part counts with ===== -/
theorem n_i {n : Nat} (h : n < 2147483648) : (Int32.ofNat n).toInt = (n : Int) := Int32.toInt_ofNat_of_lt h
theorem n_c {n : Nat} (h : n < 2147483648) : (Int32.ofNat n).toNatClampNeg = n := j_clamp h
theorem n_lt {a b : Nat} (ha : a < 2147483648) (hb : b < 2147483648) : (Int32.ofNat a < Int32.ofNat b) = (a < b) := by
  rw [Int32.lt_iff_toInt_lt, n_i ha, n_i hb]; exact propext (by omega)
theorem n_le {a b : Nat} (ha : a < 2147483648) (hb : b < 2147483648) : (Int32.ofNat a ≤ Int32.ofNat b) = (a ≤ b) := by
  rw [Int32.le_iff_toInt_le, n_i ha, n_i hb]; exact propext (by omega)
theorem n_eq {a b : Nat} (ha : a < 2147483648) (hb : b < 2147483648) : (Int32.ofNat a = Int32.ofNat b) = (a = b) := by
  rw [← Int32.toInt_inj, n_i ha, n_i hb]; exact propext (by omega)
theorem n_neg {a : Nat} (ha : a < 2147483648) : (Int32.ofNat a < 0) = False := by
  rw [Int32.lt_iff_toInt_lt, n_i ha]; exact eq_false (by have : (0 : Int32).toInt = 0 := rfl; omega)
theorem n_nn {a : Nat} (ha : a < 2147483648) : (0 ≤ Int32.ofNat a) = True := by
  rw [Int32.le_iff_toInt_le, n_i ha]; exact eq_true (by have : (0 : Int32).toInt = 0 := rfl; omega)
theorem n_m1 {a : Nat} (ha : a < 2147483648) : (Int32.ofNat a = -1) = False := by
  rw [← Int32.toInt_inj, n_i ha]; exact eq_false (by have : (-1 : Int32).toInt = -1 := rfl; omega)
theorem n_of {x : Int32} (h : 0 ≤ x) : ∃ n : Nat, x = Int32.ofNat n ∧ n < 2147483648 := ⟨x.toNatClampNeg, (Int32.ofNat_toNatClampNeg x h).symm, Int32.toNatClampNeg_lt x⟩
theorem n_ofi {x : Int32} {k : Int} (h1 : 0 ≤ x.toInt) (h2 : x.toInt ≤ k) : ∃ n : Nat, x = Int32.ofNat n ∧ (n : Int) ≤ k ∧ n < 2147483648 := by
  obtain ⟨n, rfl, hn⟩ := n_of (x := x) (by rw [Int32.le_iff_toInt_le]; exact h1)
  rw [n_i hn] at h2
  exact ⟨n, rfl, h2, hn⟩
theorem n_vp {k n : Nat} (h : k < n) (h2 : k < 2147483648) : vp_in (Int32.ofNat k) n = True := eq_true (j_vin ⟨h, h2⟩)
theorem n_add (a b : Nat) : Int32.ofNat a + Int32.ofNat b = Int32.ofNat (a + b) := (Int32.ofNat_add a b).symm
theorem n_mul (a b : Nat) : Int32.ofNat a * Int32.ofNat b = Int32.ofNat (a * b) := (Int32.ofNat_mul a b).symm
theorem n_sub (a b : Nat) (h : b ≤ a) : Int32.ofNat a - Int32.ofNat b = Int32.ofNat (a - b) := (Int32.ofNat_sub a b h).symm
theorem n_inc (a : Nat) : Int32.ofNat a + 1 = Int32.ofNat (a + 1) := (Int32.ofNat_add a 1).symm
theorem n_dec (a : Nat) (h : 1 ≤ a) : Int32.ofNat a - 1 = Int32.ofNat (a - 1) := (Int32.ofNat_sub a 1 h).symm
theorem n_d1 (m : Nat) : Int32.ofNat (m + 1) - 1 = Int32.ofNat m := n_dec (m + 1) (by omega)
/-- by what they count -/
theorem z_lt (x y : Int32) : (x < y) = (x.toInt < y.toInt) := propext Int32.lt_iff_toInt_lt
theorem z_le (x y : Int32) : (x ≤ y) = (x.toInt ≤ y.toInt) := propext Int32.le_iff_toInt_le
theorem z_eq (x y : Int32) : (x = y) = (x.toInt = y.toInt) := propext Int32.toInt_inj.symm
theorem z_bm {z : Int} (h1 : -2147483648 ≤ z) (h2 : z < 2147483648) : z.bmod 4294967296 = z := by
  rw [Int.bmod_eq_of_le] <;> omega
theorem z_add {x y : Int32} (h1 : -2147483648 ≤ x.toInt + y.toInt) (h2 : x.toInt + y.toInt < 2147483648) : (x + y).toInt = x.toInt + y.toInt := by
  rw [Int32.toInt_add]; exact z_bm h1 h2
theorem z_sub {x y : Int32} (h1 : -2147483648 ≤ x.toInt - y.toInt) (h2 : x.toInt - y.toInt < 2147483648) : (x - y).toInt = x.toInt - y.toInt := by
  rw [Int32.toInt_sub]; exact z_bm h1 h2
theorem z_mul {x y : Int32} (h1 : -2147483648 ≤ x.toInt * y.toInt) (h2 : x.toInt * y.toInt < 2147483648) : (x * y).toInt = x.toInt * y.toInt := by
  rw [Int32.toInt_mul]; exact z_bm h1 h2
theorem z_negt {x : Int32} (h1 : -2147483648 < x.toInt) : (-x).toInt = -x.toInt := by
  rw [Int32.toInt_neg]; exact z_bm (by have := Int32.toInt_lt x; omega) (by omega)
theorem z_lo (x : Int32) : -2147483648 ≤ x.toInt := Int32.le_toInt x
theorem z_hi (x : Int32) : x.toInt < 2147483648 := Int32.toInt_lt x
theorem z_div {x y : Int32} (h : 0 < y.toInt) : (x / y).toInt = x.toInt.tdiv y.toInt := Int32.toInt_div_of_ne_right x y (by rintro rfl; exact absurd h (by decide))
theorem z_cl (x : Int32) : x.toNatClampNeg = x.toInt.toNat := rfl
/-! memory -/
theorem m_s (S : ev_S) (a k : Nat) (v : Int32) : (ev_up S a k v).1 a k = v := j_rs rfl
theorem m_r {S : ev_S} {a b k : Nat} {v : Int32} (h : b ≠ a) : (ev_up S a k v).1 b = S.1 b := va_up_ne _ _ h
theorem m_k {S : ev_S} {a j k : Nat} {v : Int32} (h : j ≠ k) : (ev_up S a k v).1 a j = S.1 a j := j_rk rfl (Or.inr h)
theorem m_2 (S : ev_S) (a k : Nat) (v : Int32) : (ev_up S a k v).2 = S.2 := rfl
theorem m_u (S : ev_S) (a k : Nat) (v : Int32) : ev_up S a k v = ev_ur S a (upd (S.1 a) k v) := rfl
theorem r_s (S : ev_S) (a : Nat) (r : Nat → Int32) : (ev_ur S a r).1 a = r := j_ur_at S a r
theorem r_r {S : ev_S} {a b : Nat} {r : Nat → Int32} (h : b ≠ a) : (ev_ur S a r).1 b = S.1 b := va_up_ne _ _ h
theorem r_rr (S : ev_S) (a : Nat) (r r' : Nat → Int32) : ev_ur (ev_ur S a r) a r' = ev_ur S a r' := j_ur_ur S a r r'
theorem r_2 (S : ev_S) (a : Nat) (r : Nat → Int32) : (ev_ur S a r).2 = S.2 := rfl
theorem r_c {S : ev_S} {a b : Nat} {r r' : Nat → Int32} (h : a ≠ b) : ev_ur (ev_ur S a r) b r' = ev_ur (ev_ur S b r') a r := by
  unfold ev_ur
  congr 1
  funext c
  simp only [va_up]
  split
  · next h1 => split
               · next h2 => exact absurd (h2.symm.trans h1) h
               · rfl
  · rfl
theorem r_self (S : ev_S) (a : Nat) : ev_ur S a (S.1 a) = S := j_ur_self S a
theorem u_s (r : Nat → Int32) (k : Nat) (v : Int32) : upd r k v k = v := by simp [upd]
theorem u_k {r : Nat → Int32} {j k : Nat} {v : Int32} (h : j ≠ k) : upd r k v j = r j := by simp [upd, h]
theorem u_u (r : Nat → Int32) (k : Nat) (v w : Int32) : upd (upd r k v) k w = upd r k w := by
  funext j; simp only [upd]; split <;> rfl
theorem u_self (r : Nat → Int32) (k : Nat) : upd r k (r k) = r := by
  funext j; simp only [upd]; split
  · next h => rw [h]
  · rfl
theorem a_in {r : Nat → Int32} {n k : Nat} (h : k < n) (hn : n < 2147483648) : j_at r n (Int32.ofNat k) = r k := by
  unfold j_at
  rw [if_neg (by rw [n_neg (by omega)]; exact id), if_neg (by rw [n_le hn (by omega)]; omega), n_c (by omega)]
theorem a_out {r : Nat → Int32} {n k : Nat} (h : n ≤ k) (hn : k < 2147483648) : j_at r n (Int32.ofNat k) = -1 := by
  unfold j_at
  rw [if_neg (by rw [n_neg (by omega)]; exact id), if_pos (by rw [n_le (by omega) hn]; exact h)]
theorem a_m1 {r : Nat → Int32} {n : Nat} : j_at r n (-1) = -1 := by
  unfold j_at
  rw [if_pos (by decide)]
theorem a_put {S : ev_S} {a n k : Nat} {v : Int32} (h : k < n) (hn : n < 2147483648) : j_put S a n (Int32.ofNat k) v = ev_up S a k v := by
  unfold j_put
  rw [if_neg (by rw [n_neg (by omega)]; exact id), if_neg (by rw [n_le hn (by omega)]; omega), n_c (by omega)]
/-! numbers written, and numbers counted -/
theorem lm_2 (a : Nat) : (2 : Int32) * Int32.ofNat a = Int32.ofNat (2 * a) := (Int32.ofNat_mul 2 a).symm
theorem lm_3 (a : Nat) : (3 : Int32) * Int32.ofNat a = Int32.ofNat (3 * a) := (Int32.ofNat_mul 3 a).symm
theorem lm_6 (a : Nat) : (6 : Int32) * Int32.ofNat a = Int32.ofNat (6 * a) := (Int32.ofNat_mul 6 a).symm
theorem lm_7 (a : Nat) : (7 : Int32) * Int32.ofNat a = Int32.ofNat (7 * a) := (Int32.ofNat_mul 7 a).symm
theorem lm_11 (a : Nat) : (11 : Int32) * Int32.ofNat a = Int32.ofNat (11 * a) := (Int32.ofNat_mul 11 a).symm
theorem lm_12 (a : Nat) : (12 : Int32) * Int32.ofNat a = Int32.ofNat (12 * a) := (Int32.ofNat_mul 12 a).symm
theorem lm_15 (a : Nat) : (15 : Int32) * Int32.ofNat a = Int32.ofNat (15 * a) := (Int32.ofNat_mul 15 a).symm
theorem lm_64 (a : Nat) : (64 : Int32) * Int32.ofNat a = Int32.ofNat (64 * a) := (Int32.ofNat_mul 64 a).symm
theorem lm_124 (a : Nat) : (124 : Int32) * Int32.ofNat a = Int32.ofNat (124 * a) := (Int32.ofNat_mul 124 a).symm
theorem lm_180 (a : Nat) : (180 : Int32) * Int32.ofNat a = Int32.ofNat (180 * a) := (Int32.ofNat_mul 180 a).symm
theorem la_1 (a : Nat) : (1 : Int32) + Int32.ofNat a = Int32.ofNat (1 + a) := (Int32.ofNat_add 1 a).symm
theorem la_2 (a : Nat) : (2 : Int32) + Int32.ofNat a = Int32.ofNat (2 + a) := (Int32.ofNat_add 2 a).symm
theorem la_3 (a : Nat) : (3 : Int32) + Int32.ofNat a = Int32.ofNat (3 + a) := (Int32.ofNat_add 3 a).symm
theorem la_12 (a : Nat) : (12 : Int32) + Int32.ofNat a = Int32.ofNat (12 + a) := (Int32.ofNat_add 12 a).symm
theorem la_26 (a : Nat) : (26 : Int32) + Int32.ofNat a = Int32.ofNat (26 + a) := (Int32.ofNat_add 26 a).symm
theorem la_154 (a : Nat) : (154 : Int32) + Int32.ofNat a = Int32.ofNat (154 + a) := (Int32.ofNat_add 154 a).symm
theorem la_514 (a : Nat) : (514 : Int32) + Int32.ofNat a = Int32.ofNat (514 + a) := (Int32.ofNat_add 514 a).symm
theorem la_762 (a : Nat) : (762 : Int32) + Int32.ofNat a = Int32.ofNat (762 + a) := (Int32.ofNat_add 762 a).symm
theorem la_1140 (a : Nat) : (1140 : Int32) + Int32.ofNat a = Int32.ofNat (1140 + a) := (Int32.ofNat_add 1140 a).symm
theorem la_1200 (a : Nat) : (1200 : Int32) + Int32.ofNat a = Int32.ofNat (1200 + a) := (Int32.ofNat_add 1200 a).symm
theorem ra_0 (a : Nat) : Int32.ofNat a + (0 : Int32) = Int32.ofNat a := (Int32.ofNat_add a 0).symm
theorem ra_1 (a : Nat) : Int32.ofNat a + (1 : Int32) = Int32.ofNat (a + 1) := (Int32.ofNat_add a 1).symm
theorem ra_2 (a : Nat) : Int32.ofNat a + (2 : Int32) = Int32.ofNat (a + 2) := (Int32.ofNat_add a 2).symm
theorem ra_3 (a : Nat) : Int32.ofNat a + (3 : Int32) = Int32.ofNat (a + 3) := (Int32.ofNat_add a 3).symm
theorem ra_4 (a : Nat) : Int32.ofNat a + (4 : Int32) = Int32.ofNat (a + 4) := (Int32.ofNat_add a 4).symm
theorem ra_5 (a : Nat) : Int32.ofNat a + (5 : Int32) = Int32.ofNat (a + 5) := (Int32.ofNat_add a 5).symm
theorem ra_6 (a : Nat) : Int32.ofNat a + (6 : Int32) = Int32.ofNat (a + 6) := (Int32.ofNat_add a 6).symm
theorem ra_7 (a : Nat) : Int32.ofNat a + (7 : Int32) = Int32.ofNat (a + 7) := (Int32.ofNat_add a 7).symm
theorem ra_8 (a : Nat) : Int32.ofNat a + (8 : Int32) = Int32.ofNat (a + 8) := (Int32.ofNat_add a 8).symm
theorem ra_9 (a : Nat) : Int32.ofNat a + (9 : Int32) = Int32.ofNat (a + 9) := (Int32.ofNat_add a 9).symm
theorem ra_10 (a : Nat) : Int32.ofNat a + (10 : Int32) = Int32.ofNat (a + 10) := (Int32.ofNat_add a 10).symm
theorem ra_48 (a : Nat) : Int32.ofNat a + (48 : Int32) = Int32.ofNat (a + 48) := (Int32.ofNat_add a 48).symm
theorem rm_12 (a : Nat) : Int32.ofNat a * (12 : Int32) = Int32.ofNat (a * 12) := (Int32.ofNat_mul a 12).symm
theorem rm_2 (a : Nat) : Int32.ofNat a * (2 : Int32) = Int32.ofNat (a * 2) := (Int32.ofNat_mul a 2).symm
theorem rm_64 (a : Nat) : Int32.ofNat a * (64 : Int32) = Int32.ofNat (a * 64) := (Int32.ofNat_mul a 64).symm
theorem rm_6 (a : Nat) : Int32.ofNat a * (6 : Int32) = Int32.ofNat (a * 6) := (Int32.ofNat_mul a 6).symm
