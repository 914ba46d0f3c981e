/-! ===== what the class reads in the law's text (the text alone) ===== -/
/-- from s to the end n of T the letters are l -/
def tx_R (T : Nat → Int32) (n s : Nat) (l : List Nat) : Prop := s + l.length = n ∧ ∀ j, j < l.length → T (s + j) = Int32.ofNat (l.getD j 0)
theorem tx_R_app {T : Nat → Int32} {n s : Nat} {a b : List Nat} (h : tx_R T n s (a ++ b)) : tx_R T n (s + a.length) b := by
  obtain ⟨h1, h2⟩ := h
  rw [List.length_append] at h1 h2
  refine ⟨by omega, fun j hj => ?_⟩
  have := h2 (a.length + j) (by omega)
  rw [jb_app_get, if_neg (by omega), Nat.add_sub_cancel_left] at this
  rw [Nat.add_assoc]
  exact this
theorem tx_R_at {T : Nat → Int32} {n s j : Nat} {a b : List Nat} (h : tx_R T n s (a ++ b)) (hj : j < a.length) : T (s + j) = Int32.ofNat (a.getD j 0) ∧ s + j < n := by
  obtain ⟨h1, h2⟩ := h
  rw [List.length_append] at h1 h2
  have := h2 j (by omega)
  rw [jb_app_get, if_pos hj] at this
  exact ⟨this, by omega⟩
theorem tx_R_hd {T : Nat → Int32} {n s c : Nat} {b : List Nat} (h : tx_R T n s (c :: b)) : T s = Int32.ofNat c ∧ s < n ∧ tx_R T n (s + 1) b := by
  have h' : tx_R T n s ([c] ++ b) := h
  have h1 := tx_R_at (j := 0) h' (by simp)
  exact ⟨h1.1, h1.2, tx_R_app h'⟩
theorem x_rn_run {P : Nat → Bool} : ∀ (m k s : Nat), m ≤ k → (∀ j, j < m → P (s + j) = true) → ¬ P (s + m) = true → x_rn P k s = s + m := by
  intro m
  induction m with
  | zero => intro k s _ _ h; exact x_rn_f h
  | succ m ih =>
    intro k s hk h1 h2
    obtain ⟨k', rfl⟩ : ∃ k', k = k' + 1 := ⟨k - 1, by omega⟩
    have h0 : P s = true := h1 0 (by omega)
    rw [x_rn, if_pos h0, ih k' (s + 1) (by omega) (fun j hj => by
      have := h1 (j + 1) (by omega)
      rwa [show s + (j + 1) = s + 1 + j by omega] at this) (by rwa [show s + 1 + m = s + (m + 1) by omega])]
    omega
theorem jb_cls : ∀ c, c < 128 → t_X8_isBlank (Int32.ofNat c) = decide (c = 32 ∨ c = 10) ∧ t_X8_isLetter (Int32.ofNat c) = decide (97 ≤ c ∧ c ≤ 122) ∧ t_X8_isDigit (Int32.ofNat c) = decide (48 ≤ c ∧ c ≤ 57) := by decide +kernel
def jb_wd (k : Nat) : List Nat := match k with
  | 1 => [103, 97, 109, 101]
  | 2 => [98, 105, 115, 104, 111, 112]
  | 3 => [112, 97, 115, 115]
  | 4 => [115, 110, 111, 119]
  | _ => []
theorem jb_wd_ok : ∀ k, k < 5 → 1 ≤ k → jb_lit (k + 9) = jb_wd k ++ [32] ∧ ev_le.getD k 0 = (jb_wd k).length ∧ 0 < (jb_wd k).length ∧ (jb_wd k).length ≤ 6 ∧ ∀ j, j < (jb_wd k).length → j_lb k j = Int32.ofNat ((jb_wd k).getD j 0) ∧ 97 ≤ (jb_wd k).getD j 0 ∧ (jb_wd k).getD j 0 ≤ 122 := by decide +kernel
theorem jb_wd_ne : ∀ k, k < 5 → ∀ m, m < 5 → (1 ≤ k ∧ 1 ≤ m ∧ ¬ m = k) → (j_lb k 0 == j_lb m 0) = false := by decide +kernel
/-- a word -/
theorem tk_word {T : Nat → Int32} {n s k : Nat} {l : List Nat} (hk : k < 5) (hk1 : 1 ≤ k) (h : tx_R T n s (jb_wd k ++ 32 :: l)) : x_w T n s k = true ∧ x_E T n s = s + (jb_wd k).length ∧ tx_R T n (s + (jb_wd k).length) (32 :: l) ∧ ∀ m, m < 5 → 1 ≤ m → m ≠ k → x_w T n s m = false := by
  obtain ⟨-, wl, w0, w6, wc⟩ := jb_wd_ok k hk hk1
  have hat := fun j hj => tx_R_at (j := j) h hj
  have hr := tx_R_app h
  obtain ⟨r1, r2, -⟩ := tx_R_hd hr
  have c0 := wc 0 w0
  have a0 := hat 0 w0
  rw [Nat.add_zero] at a0
  have B : x_B T n s = s := by
    refine x_rn_f ?_
    unfold x_bl
    rw [x_and, a0.1, (jb_cls _ (by omega)).1]
    intro h9
    have := of_decide_eq_true h9.2
    omega
  have hlt : ∀ j, j < (jb_wd k).length → x_lt T n (s + j) = true := fun j hj => by
    unfold x_lt
    rw [x_and, (hat j hj).1, (jb_cls _ (by have := wc j hj; omega)).2.1]
    exact ⟨(hat j hj).2, decide_eq_true (by have := wc j hj; omega)⟩
  have hend : ¬ x_lt T n (s + (jb_wd k).length) = true := by
    unfold x_lt
    rw [x_and, r1]
    intro h9
    exact absurd h9.2 (by decide)
  have run : x_rn (x_lt T n) (n - s) s = s + (jb_wd k).length := x_rn_run _ _ _ (by omega) hlt hend
  have L0 : t_X8_isLetter (T s) = true := by
    rw [a0.1, (jb_cls _ (by omega)).2.1]
    exact decide_eq_true (by omega)
  have E : x_E T n s = s + (jb_wd k).length := by
    unfold x_E x_Eb
    rw [B, if_neg (by omega), if_pos L0, run]
  have K : x_K T n s = 1 := by
    unfold x_K x_Kb
    rw [B, if_neg (by omega), if_pos L0]
  refine ⟨?_, E, hr, fun m hm hm1 hmk => ?_⟩
  · unfold x_w
    rw [Bool.and_eq_true, decide_eq_true_eq, E, B, wl]
    refine ⟨⟨K, by omega⟩, ?_⟩
    have : ∀ i, i ≤ (jb_wd k).length → x_wm T s k i = true := by
      intro i
      induction i with
      | zero => intro _; rfl
      | succ i ih => intro hi; exact x_wm_t (ih (by omega)) ((hat i (by omega)).1.trans (wc i (by omega)).1.symm)
    exact this _ (Nat.le_refl _)
  · obtain ⟨-, vl, v0, -, -⟩ := jb_wd_ok m hm hm1
    refine Bool.eq_false_iff.mpr (fun h9 => ?_)
    unfold x_w at h9
    rw [Bool.and_eq_true, B] at h9
    refine x_wm_f (i := 0) (fun h8 => ?_) _ (by rw [vl]; exact v0) h9.2
    rw [Nat.add_zero, a0.1, ← c0.1] at h8
    have h7 := jb_wd_ne k hk m hm ⟨hk1, hm1, hmk⟩
    rw [h8, beq_self_eq_true] at h7
    cases h7
/-- the end -/
theorem tk_end {T : Nat → Int32} {n s : Nat} (h : tx_R T n s []) : x_K T n s = 0 ∧ ∀ m, x_w T n s m = false := by
  have hs : s = n := by have := h.1; simpa using this
  subst hs
  have B : x_B T s s = s := by
    unfold x_B
    rw [Nat.sub_self]
    rfl
  have K : x_K T s s = 0 := by
    unfold x_K x_Kb
    rw [B, if_pos (Nat.le_refl _)]
  refine ⟨K, fun m => ?_⟩
  unfold x_w
  rw [K]
  simp
theorem tk_sgn {T : Nat → Int32} {n s : Nat} {l : List Nat} (h : tx_R T n s (59 :: l)) : p_sgn T n s 59 = .inr (s + 1) ∧ tx_R T n (s + 1) l := by
  obtain ⟨h1, h2, h3⟩ := tx_R_hd h
  have B : x_B T n s = s := by
    refine x_rn_f ?_
    unfold x_bl
    rw [x_and, h1]
    intro h9
    exact absurd h9.2 (by decide)
  have L : ¬ t_X8_isLetter (T s) = true := by rw [h1]; decide
  have D : ¬ t_X8_isDigit (T s) = true := by rw [h1]; decide
  have E : x_E T n s = s + 1 := by
    unfold x_E x_Eb
    rw [B, if_neg (by omega), if_neg L, if_neg D]
  have K : x_K T n s = 3 := by
    unfold x_K x_Kb
    rw [B, if_neg (by omega), if_neg L, if_neg D, if_pos (Or.inl (by rw [h1]; rfl))]
  have V : x_V T n s = 59 := by
    unfold x_V x_Vb
    rw [B, if_neg (by omega), if_neg L, if_neg D, h1]
    rfl
  refine ⟨?_, h3⟩
  unfold p_sgn p_sg
  rw [K, V, E]
  rfl
theorem jb_dec_dg : ∀ x, x < 100 → 0 < (jb_dec x).length ∧ (jb_dec x).length ≤ 2 ∧ ∀ j, j < (jb_dec x).length → 48 ≤ (jb_dec x).getD j 0 ∧ (jb_dec x).getD j 0 ≤ 57 := by decide +kernel
theorem jb_dec_v1 : ∀ x, x < 10 → ev_min 1000 (0 * 10 + Int32.ofNat (48 + x % 10) - 48) = Int32.ofNat x := by decide +kernel
theorem jb_dec_v2 : ∀ x, x < 100 → ev_min 1000 (ev_min 1000 (0 * 10 + Int32.ofNat (48 + x / 10) - 48) * 10 + Int32.ofNat (48 + x % 10) - 48) = Int32.ofNat x := by decide +kernel
theorem tk_num {T : Nat → Int32} {n s x c : Nat} {l : List Nat} (hx : x < 100) (hc : c = 32 ∨ c = 59) (h : tx_R T n s (32 :: (jb_dec x ++ c :: l))) : ∃ s', (∀ lo hi : Int32, lo ≤ Int32.ofNat x → Int32.ofNat x ≤ hi → p_num T n s lo hi = .inr (Int32.ofNat x, s')) ∧ tx_R T n s' (c :: l) := by
  obtain ⟨h1, h2, h3⟩ := tx_R_hd h
  obtain ⟨d0, d2, dd⟩ := jb_dec_dg x hx
  have hat := fun j hj => tx_R_at (j := j) h3 hj
  have hr := tx_R_app h3
  obtain ⟨r1, r2, -⟩ := tx_R_hd hr
  have a0 := hat 0 d0
  rw [Nat.add_zero] at a0
  have e0 := dd 0 d0
  have B : x_B T n s = s + 1 := by
    refine x_rn_run 1 _ _ (by omega) (fun j hj => ?_) ?_
    · have : j = 0 := by omega
      subst this
      unfold x_bl
      rw [x_and, Nat.add_zero, h1]
      exact ⟨h2, by decide⟩
    · unfold x_bl
      rw [x_and, a0.1, (jb_cls _ (by omega)).1]
      intro h9
      have := of_decide_eq_true h9.2
      omega
  have L : ¬ t_X8_isLetter (T (s + 1)) = true := by
    rw [a0.1, (jb_cls _ (by omega)).2.1]
    intro h9
    have := of_decide_eq_true h9
    omega
  have D : t_X8_isDigit (T (s + 1)) = true := by
    rw [a0.1, (jb_cls _ (by omega)).2.2]
    exact decide_eq_true (by omega)
  have run : x_rn (x_dg T n) (n - (s + 1)) (s + 1) = s + 1 + (jb_dec x).length := by
    refine x_rn_run _ _ _ (by omega) (fun j hj => ?_) ?_
    · unfold x_dg
      rw [x_and, (hat j hj).1, (jb_cls _ (by have := dd j hj; omega)).2.2]
      exact ⟨(hat j hj).2, decide_eq_true (by have := dd j hj; omega)⟩
    · unfold x_dg
      rw [x_and, r1, (jb_cls c (by omega)).2.2]
      intro h9
      have := of_decide_eq_true h9.2
      omega
  have E : x_E T n s = s + 1 + (jb_dec x).length := by
    unfold x_E x_Eb
    rw [B, if_neg (by omega), if_neg L, if_pos D, run]
  have K : x_K T n s = 2 := by
    unfold x_K x_Kb
    rw [B, if_neg (by omega), if_neg L, if_pos D]
  have V : x_V T n s = Int32.ofNat x := by
    unfold x_V x_Vb
    rw [B, if_neg (by omega), if_neg L, if_pos D, run, Nat.add_sub_cancel_left]
    by_cases h10 : x < 10
    · have e : jb_dec x = [48 + x % 10] := by unfold jb_dec; rw [if_pos h10]
      rw [e] at a0 ⊢
      show x_num T 1 (s + 1) 0 = _
      rw [x_num, x_num, a0.1]
      exact jb_dec_v1 x h10
    · have e : jb_dec x = [48 + x / 10, 48 + x % 10] := by unfold jb_dec; rw [if_neg h10]
      have a1 := hat 1 (by rw [e]; exact Nat.lt_succ_self 1)
      rw [e] at a0 a1 ⊢
      show x_num T 2 (s + 1) 0 = _
      rw [x_num, x_num, x_num, a0.1, a1.1]
      exact jb_dec_v2 x hx
  refine ⟨s + 1 + (jb_dec x).length, fun lo hi hlo hhi => ?_, hr⟩
  unfold p_num
  rw [K, V, E, if_pos rfl, if_neg (fun h9 => by rcases h9 with h9 | h9; exact Int32.not_lt.mpr hlo h9; exact Int32.not_lt.mpr hhi h9)]
/-- a statement of three numbers -/
def tx3 (k a b c : Nat) : List Nat := jb_lit (k + 9) ++ (jb_dec a ++ (32 :: (jb_dec b ++ (32 :: (jb_dec c ++ [59])))))
theorem tk_3 {T : Nat → Int32} {n s k a b c : Nat} {l : List Nat} (hk : k < 5) (hk1 : 1 ≤ k) (ha : a < 100) (hb : b < 100) (hc : c < 100) (h : tx_R T n s (tx3 k a b c ++ l)) : x_w T n s k = true ∧ (∀ m, m < 5 → 1 ≤ m → m ≠ k → x_w T n s m = false) ∧ ∃ s2 s3 s4 s5, (∀ lo hi : Int32, lo ≤ Int32.ofNat a → Int32.ofNat a ≤ hi → p_num T n (x_E T n s) lo hi = .inr (Int32.ofNat a, s2)) ∧ (∀ lo hi : Int32, lo ≤ Int32.ofNat b → Int32.ofNat b ≤ hi → p_num T n s2 lo hi = .inr (Int32.ofNat b, s3)) ∧ (∀ lo hi : Int32, lo ≤ Int32.ofNat c → Int32.ofNat c ≤ hi → p_num T n s3 lo hi = .inr (Int32.ofNat c, s4)) ∧ p_sgn T n s4 59 = .inr s5 ∧ tx_R T n s5 l := by
  have e : tx3 k a b c ++ l = jb_wd k ++ 32 :: (jb_dec a ++ 32 :: (jb_dec b ++ 32 :: (jb_dec c ++ 59 :: l))) := by
    unfold tx3
    rw [(jb_wd_ok k hk hk1).1]
    simp [List.append_assoc]
  rw [e] at h
  obtain ⟨w1, w2, w3, w4⟩ := tk_word hk hk1 h
  obtain ⟨s2, p2, r2⟩ := tk_num ha (Or.inl rfl) w3
  obtain ⟨s3, p3, r3⟩ := tk_num hb (Or.inl rfl) r2
  obtain ⟨s4, p4, r4⟩ := tk_num hc (Or.inr rfl) r3
  obtain ⟨p5, r5⟩ := tk_sgn r4
  exact ⟨w1, w4, s2, s3, s4, s4 + 1, by rw [w2]; exact p2, p3, p4, p5, r5⟩
theorem tx_pred : ∀ N, N < 9 → 1 ≤ N → Int32.ofNat N - 1 = Int32.ofNat (N - 1) := by decide +kernel
/-! bishops -/
def tx_bs (N : Nat) : List (Nat × Nat) → List Nat
  | [] => []
  | x :: l => tx3 2 x.1 (x.2 / N) (x.2 % N) ++ tx_bs N l
def o_lays : (Nat → Int32) → List (Nat × Nat) → Nat → Int32
  | r, [] => r
  | r, x :: l => o_lays (o_lay r x.1 x.2) l
def tx_bok (N : Nat) : (Nat → Int32) → List (Nat × Nat) → Prop
  | _, [] => True
  | r, x :: l => (x.1 < 2 ∧ x.2 < N * N ∧ r (26 + x.2) = -1 ∧ o_bish r 0 N (Int32.ofNat x.1) < 8) ∧ tx_bok N (o_lay r x.1 x.2) l
theorem tx_bs_app {N : Nat} {x : Nat × Nat} : ∀ l, tx_bs N (l ++ [x]) = tx_bs N l ++ tx3 2 x.1 (x.2 / N) (x.2 % N) := by
  intro l
  induction l with
  | nil => show tx3 _ _ _ _ ++ [] = [] ++ _; simp
  | cons y l ih => show tx3 _ _ _ _ ++ tx_bs N (l ++ [x]) = (tx3 _ _ _ _ ++ tx_bs N l) ++ _; rw [ih, List.append_assoc]
theorem o_lays_app {x : Nat × Nat} : ∀ l r, o_lays r (l ++ [x]) = o_lay (o_lays r l) x.1 x.2 := by
  intro l
  induction l with
  | nil => intro r; rfl
  | cons y l ih => intro r; exact ih _
theorem tx_bok_app {N : Nat} {x : Nat × Nat} : ∀ l r, tx_bok N r l → (x.1 < 2 ∧ x.2 < N * N ∧ o_lays r l (26 + x.2) = -1 ∧ o_bish (o_lays r l) 0 N (Int32.ofNat x.1) < 8) → tx_bok N r (l ++ [x]) := by
  intro l
  induction l with
  | nil => intro r _ h; exact ⟨h, trivial⟩
  | cons y l ih => intro r h1 h2; exact ⟨h1.1, ih _ h1.2 h2⟩
theorem p_bish_ok {T : Nat → Int32} {n N s s2 s3 s4 s5 a b c : Nat} {r : Nat → Int32} (hN : N ≤ 8) (ha : a < 2) (hb : b < N) (hc : c < N) (he : r (26 + (b * N + c)) = -1) (hm : o_bish r 0 N (Int32.ofNat a) < 8)
    (p2 : ∀ lo hi : Int32, lo ≤ Int32.ofNat a → Int32.ofNat a ≤ hi → p_num T n s lo hi = .inr (Int32.ofNat a, s2)) (p3 : ∀ lo hi : Int32, lo ≤ Int32.ofNat b → Int32.ofNat b ≤ hi → p_num T n s2 lo hi = .inr (Int32.ofNat b, s3)) (p4 : ∀ lo hi : Int32, lo ≤ Int32.ofNat c → Int32.ofNat c ≤ hi → p_num T n s3 lo hi = .inr (Int32.ofNat c, s4)) (p5 : p_sgn T n s4 59 = .inr s5) : p_bish T n r N s = .inr (o_lay r a (b * N + c), s5) := by
  have z0 : (0 : Int32) = Int32.ofNat 0 := rfl
  have z1 : (1 : Int32) = Int32.ofNat 1 := rfl
  have le : ∀ x y : Nat, x ≤ y → y < 100 → Int32.ofNat x ≤ Int32.ofNat y := fun x y h1 h2 => by rw [n_le (by omega) (by omega)]; exact h1
  unfold p_bish
  rw [p2 0 1 (le 0 a (by omega) (by omega)) (le a 1 (by omega) (by omega)), tx_pred N (by omega) (by omega)]
  show (if 8 ≤ o_bish r 0 N (Int32.ofNat a) then _ else _) = _
  rw [if_neg (by omega)]
  show p_bd (p_num T n s2 0 (Int32.ofNat (N - 1))) _ = _
  rw [p3 0 _ (le 0 b (by omega) (by omega)) (le b (N - 1) (by omega) (by omega))]
  show p_bd (p_num T n s3 0 (Int32.ofNat (N - 1))) _ = _
  rw [p4 0 _ (le 0 c (by omega) (by omega)) (le c (N - 1) (by omega) (by omega))]
  show (if r (26 + ((Int32.ofNat b).toNatClampNeg * N + (Int32.ofNat c).toNatClampNeg)) = -1 then p_bd (p_sgn T n s4 59) (fun s4 => .inr (o_lay r (Int32.ofNat a).toNatClampNeg ((Int32.ofNat b).toNatClampNeg * N + (Int32.ofNat c).toNatClampNeg), s4)) else _) = _
  rw [n_c (by omega), n_c (by omega), n_c (by omega), if_pos he, p5]
  rfl
theorem p_bishs_ok {T : Nat → Int32} {n N : Nat} {rest : List Nat} (h1 : 1 ≤ N) (h8 : N ≤ 8) (hne : ∀ s, tx_R T n s rest → x_w T n s 2 = false) : ∀ l r k s, l.length < k → tx_bok N r l → tx_R T n s (tx_bs N l ++ rest) → ∃ s', p_bishs T n N k r s = .inr (o_lays r l, s') ∧ tx_R T n s' rest := by
  intro l
  induction l with
  | nil =>
    intro r k s hk _ h
    obtain ⟨k, rfl⟩ : ∃ k', k = k' + 1 := ⟨k - 1, by have : ([] : List (Nat × Nat)).length = 0 := rfl; omega⟩
    have h' : tx_R T n s rest := h
    refine ⟨s, ?_, h'⟩
    rw [p_bishs, hne s h', if_neg (by decide)]
    rfl
  | cons x l ih =>
    intro r k s hk hok h
    obtain ⟨k, rfl⟩ : ∃ k', k = k' + 1 := ⟨k - 1, by rw [List.length_cons] at hk; omega⟩
    rw [List.length_cons] at hk
    obtain ⟨⟨x1, x2, x3, x4⟩, x5⟩ := hok
    have h' : tx_R T n s (tx3 2 x.1 (x.2 / N) (x.2 % N) ++ (tx_bs N l ++ rest)) := by
      rw [← List.append_assoc]
      exact h
    have hd : x.2 / N < N := Nat.div_lt_of_lt_mul x2
    have hm : x.2 % N < N := Nat.mod_lt _ (by omega)
    obtain ⟨w1, -, s2, s3, s4, s5, p2, p3, p4, p5, p6⟩ := tk_3 (k := 2) (by decide) (by decide) (by omega) (by omega) (by omega) h'
    have hq : x.2 / N * N + x.2 % N = x.2 := by rw [Nat.mul_comm]; exact Nat.div_add_mod _ _
    have := p_bish_ok (r := r) h8 x1 hd hm (by rw [hq]; exact x3) x4 p2 p3 p4 p5
    rw [hq] at this
    obtain ⟨s', e, hr⟩ := ih (o_lay r x.1 x.2) k s5 (by omega) x5 p6
    refine ⟨s', ?_, hr⟩
    rw [p_bishs, w1, if_pos rfl, this]
    exact e
/-! passes -/
def tx_ps : List (Nat × (Nat × Nat)) → List Nat
  | [] => []
  | x :: l => tx3 3 x.1 x.2.1 x.2.2 ++ tx_ps l
def o_opens : (Nat → Int32) → List (Nat × (Nat × Nat)) → Nat → Int32
  | r, [] => r
  | r, x :: l => o_opens (o_open r (o_np r) (Int32.ofNat x.1) (Int32.ofNat x.2.1) (Int32.ofNat x.2.2)) l
def tx_pok : List (Nat × (Nat × Nat)) → Prop
  | [] => True
  | x :: l => (1 ≤ x.1 ∧ x.1 ≤ 9 ∧ x.2.1 ≤ 9 ∧ x.2.2 ≤ 9) ∧ tx_pok l
theorem tx_ps_app {x : Nat × (Nat × Nat)} : ∀ l, tx_ps (l ++ [x]) = tx_ps l ++ tx3 3 x.1 x.2.1 x.2.2 := by
  intro l
  induction l with
  | nil => show tx3 _ _ _ _ ++ [] = [] ++ _; simp
  | cons y l ih => show tx3 _ _ _ _ ++ tx_ps (l ++ [x]) = (tx3 _ _ _ _ ++ tx_ps l) ++ _; rw [ih, List.append_assoc]
theorem o_opens_app {x : Nat × (Nat × Nat)} : ∀ l r, o_opens r (l ++ [x]) = o_open (o_opens r l) (o_np (o_opens r l)) (Int32.ofNat x.1) (Int32.ofNat x.2.1) (Int32.ofNat x.2.2) := by
  intro l
  induction l with
  | nil => intro r; rfl
  | cons y l ih => intro r; exact ih _
theorem tx_pok_app {x : Nat × (Nat × Nat)} : ∀ l, tx_pok l → (1 ≤ x.1 ∧ x.1 ≤ 9 ∧ x.2.1 ≤ 9 ∧ x.2.2 ≤ 9) → tx_pok (l ++ [x]) := by
  intro l
  induction l with
  | nil => intro _ h; exact ⟨h, trivial⟩
  | cons y l ih => intro h1 h2; exact ⟨h1.1, ih h1.2 h2⟩
theorem o_np_open {r : Nat → Int32} {np : Nat} {v0 v1 v2 : Int32} (h : np < 4) : o_np (o_open r np v0 v1 v2) = np + 1 := by
  unfold o_np
  rw [(o_open_f (r := r) (np := np) (v0 := v0) (v1 := v1) (v2 := v2)).2.2.2.2, n_c (by omega)]
theorem o_np_opens : ∀ l r, o_np r + l.length ≤ 4 → o_np (o_opens r l) = o_np r + l.length := by
  intro l
  induction l with
  | nil => intro r _; rfl
  | cons x l ih =>
    intro r h
    rw [List.length_cons] at h ⊢
    show o_np (o_opens (o_open r (o_np r) _ _ _) l) = _
    rw [ih _ (by rw [o_np_open (by omega)]; omega), o_np_open (by omega)]
    omega
theorem p_pass_ok {T : Nat → Int32} {n s s2 s3 s4 s5 a b c : Nat} {r : Nat → Int32} (h1 : 1 ≤ a) (h9 : a ≤ 9) (hb : b ≤ 9) (hc : c ≤ 9)
    (p2 : ∀ lo hi : Int32, lo ≤ Int32.ofNat a → Int32.ofNat a ≤ hi → p_num T n s lo hi = .inr (Int32.ofNat a, s2)) (p3 : ∀ lo hi : Int32, lo ≤ Int32.ofNat b → Int32.ofNat b ≤ hi → p_num T n s2 lo hi = .inr (Int32.ofNat b, s3)) (p4 : ∀ lo hi : Int32, lo ≤ Int32.ofNat c → Int32.ofNat c ≤ hi → p_num T n s3 lo hi = .inr (Int32.ofNat c, s4)) (p5 : p_sgn T n s4 59 = .inr s5) : p_pass T n r s = .inr (o_open r (o_np r) (Int32.ofNat a) (Int32.ofNat b) (Int32.ofNat c), s5) := by
  have le : ∀ x y : Nat, x ≤ y → y < 100 → Int32.ofNat x ≤ Int32.ofNat y := fun x y h1 h2 => by rw [n_le (by omega) (by omega)]; exact h1
  unfold p_pass
  rw [p2 1 9 (le 1 a h1 (by omega)) (le a 9 h9 (by omega))]
  show p_bd (p_num T n s2 0 9) _ = _
  rw [p3 0 9 (le 0 b (by omega) (by omega)) (le b 9 hb (by omega))]
  show p_bd (p_num T n s3 0 9) _ = _
  rw [p4 0 9 (le 0 c (by omega) (by omega)) (le c 9 hc (by omega))]
  show p_bd (p_sgn T n s4 59) _ = _
  rw [p5]
  rfl
theorem p_passs_ok {T : Nat → Int32} {n : Nat} {rest : List Nat} (hne : ∀ s, tx_R T n s rest → x_w T n s 3 = false) : ∀ l r k s, l.length < k → o_np r + l.length ≤ 4 → tx_pok l → tx_R T n s (tx_ps l ++ rest) → ∃ s', p_passs T n k r s = .inr (o_opens r l, s') ∧ tx_R T n s' rest := by
  intro l
  induction l with
  | nil =>
    intro r k s hk _ _ h
    obtain ⟨k, rfl⟩ : ∃ k', k = k' + 1 := ⟨k - 1, by have : ([] : List (Nat × (Nat × Nat))).length = 0 := rfl; omega⟩
    have h' : tx_R T n s rest := h
    refine ⟨s, ?_, h'⟩
    rw [p_passs, hne s h', if_neg (by decide)]
    rfl
  | cons x l ih =>
    intro r k s hk hnp hok h
    obtain ⟨k, rfl⟩ : ∃ k', k = k' + 1 := ⟨k - 1, by rw [List.length_cons] at hk; omega⟩
    rw [List.length_cons] at hk hnp
    obtain ⟨⟨x1, x2, x3, x4⟩, x5⟩ := hok
    have h' : tx_R T n s (tx3 3 x.1 x.2.1 x.2.2 ++ (tx_ps l ++ rest)) := by
      rw [← List.append_assoc]
      exact h
    obtain ⟨w1, -, s2, s3, s4, s5, p2, p3, p4, p5, p6⟩ := tk_3 (k := 3) (by decide) (by decide) (by omega) (by omega) (by omega) h'
    have := p_pass_ok (r := r) x1 x2 x3 x4 p2 p3 p4 p5
    obtain ⟨s', e, hr⟩ := ih (o_open r (o_np r) (Int32.ofNat x.1) (Int32.ofNat x.2.1) (Int32.ofNat x.2.2)) k s5 (by omega) (by rw [o_np_open (by omega)]; omega) x5 p6
    refine ⟨s', ?_, hr⟩
    rw [p_passs, w1, if_pos rfl, if_pos (by omega), this]
    exact e
/-! snow -/
def tx_ss : List (Nat × (Nat × Nat)) → List Nat
  | [] => []
  | x :: l => tx3 4 x.1 x.2.1 x.2.2 ++ tx_ss l
def o_snows : (Nat → Int32) → List (Nat × (Nat × Nat)) → Nat → Int32
  | r, [] => r
  | r, x :: l => o_snows (o_snow r x.1 x.2.1 (Int32.ofNat x.2.2)) l
def tx_sok (np : Nat) : List (Nat × (Nat × Nat)) → Prop
  | [] => True
  | x :: l => (x.1 < np ∧ x.2.1 ≤ 11 ∧ x.2.2 ≤ 9) ∧ tx_sok np l
theorem tx_ss_app {x : Nat × (Nat × Nat)} : ∀ l, tx_ss (l ++ [x]) = tx_ss l ++ tx3 4 x.1 x.2.1 x.2.2 := by
  intro l
  induction l with
  | nil => show tx3 _ _ _ _ ++ [] = [] ++ _; simp
  | cons y l ih => show tx3 _ _ _ _ ++ tx_ss (l ++ [x]) = (tx3 _ _ _ _ ++ tx_ss l) ++ _; rw [ih, List.append_assoc]
theorem o_snows_app {x : Nat × (Nat × Nat)} : ∀ l r, o_snows r (l ++ [x]) = o_snow (o_snows r l) x.1 x.2.1 (Int32.ofNat x.2.2) := by
  intro l
  induction l with
  | nil => intro r; rfl
  | cons y l ih => intro r; exact ih _
theorem tx_sok_app {np : Nat} {x : Nat × (Nat × Nat)} : ∀ l, tx_sok np l → (x.1 < np ∧ x.2.1 ≤ 11 ∧ x.2.2 ≤ 9) → tx_sok np (l ++ [x]) := by
  intro l
  induction l with
  | nil => intro _ h; exact ⟨h, trivial⟩
  | cons y l ih => intro h1 h2; exact ⟨h1.1, ih h1.2 h2⟩
theorem p_snow_ok {T : Nat → Int32} {n np s s2 s3 s4 s5 a b c : Nat} {r : Nat → Int32} (hnp : np ≤ 4) (e3 : o_np r = np) (ha : a < np) (hb : b ≤ 11) (hc : c ≤ 9)
    (p2 : ∀ lo hi : Int32, lo ≤ Int32.ofNat a → Int32.ofNat a ≤ hi → p_num T n s lo hi = .inr (Int32.ofNat a, s2)) (p3 : ∀ lo hi : Int32, lo ≤ Int32.ofNat b → Int32.ofNat b ≤ hi → p_num T n s2 lo hi = .inr (Int32.ofNat b, s3)) (p4 : ∀ lo hi : Int32, lo ≤ Int32.ofNat c → Int32.ofNat c ≤ hi → p_num T n s3 lo hi = .inr (Int32.ofNat c, s4)) (p5 : p_sgn T n s4 59 = .inr s5) : p_snow T n r s = .inr (o_snow r a b (Int32.ofNat c), s5) := by
  have le : ∀ x y : Nat, x ≤ y → y < 100 → Int32.ofNat x ≤ Int32.ofNat y := fun x y h1 h2 => by rw [n_le (by omega) (by omega)]; exact h1
  unfold p_snow
  rw [e3, tx_pred np (by omega) (by omega), p2 0 _ (le 0 a (by omega) (by omega)) (le a (np - 1) (by omega) (by omega))]
  show p_bd (p_num T n s2 0 11) _ = _
  rw [p3 0 11 (le 0 b (by omega) (by omega)) (le b 11 hb (by omega))]
  show p_bd (p_num T n s3 0 9) _ = _
  rw [p4 0 9 (le 0 c (by omega) (by omega)) (le c 9 hc (by omega))]
  show p_bd (p_sgn T n s4 59) (fun s4 => .inr (o_snow r (Int32.ofNat a).toNatClampNeg (Int32.ofNat b).toNatClampNeg (Int32.ofNat c), s4)) = _
  rw [p5, n_c (by omega), n_c (by omega)]
  rfl
theorem o_np_snow {r : Nat → Int32} {q t : Nat} {v : Int32} : o_np (o_snow r q t v) = o_np r := by
  unfold o_np o_snow
  rw [u_k (by omega)]
theorem p_snows_ok {T : Nat → Int32} {n np : Nat} {rest : List Nat} (hnp : np ≤ 4) (hne : ∀ s, tx_R T n s rest → x_w T n s 4 = false) : ∀ l r k s, l.length < k → o_np r = np → tx_sok np l → tx_R T n s (tx_ss l ++ rest) → ∃ s', p_snows T n k r s = .inr (o_snows r l, s') ∧ tx_R T n s' rest := by
  intro l
  induction l with
  | nil =>
    intro r k s hk _ _ h
    obtain ⟨k, rfl⟩ : ∃ k', k = k' + 1 := ⟨k - 1, by have : ([] : List (Nat × (Nat × Nat))).length = 0 := rfl; omega⟩
    have h' : tx_R T n s rest := h
    refine ⟨s, ?_, h'⟩
    rw [p_snows, hne s h', if_neg (by decide)]
    rfl
  | cons x l ih =>
    intro r k s hk e3 hok h
    obtain ⟨k, rfl⟩ : ∃ k', k = k' + 1 := ⟨k - 1, by rw [List.length_cons] at hk; omega⟩
    rw [List.length_cons] at hk
    obtain ⟨⟨x1, x2, x3⟩, x5⟩ := hok
    have h' : tx_R T n s (tx3 4 x.1 x.2.1 x.2.2 ++ (tx_ss l ++ rest)) := by
      rw [← List.append_assoc]
      exact h
    obtain ⟨w1, -, s2, s3, s4, s5, p2, p3, p4, p5, p6⟩ := tk_3 (k := 4) (by decide) (by decide) (by omega) (by omega) (by omega) h'
    have := p_snow_ok (r := r) hnp e3 x1 x2 x3 p2 p3 p4 p5
    obtain ⟨s', e, hr⟩ := ih (o_snow r x.1 x.2.1 (Int32.ofNat x.2.2)) k s5 (by omega) (o_np_snow.trans e3) x5 p6
    refine ⟨s', ?_, hr⟩
    rw [p_snows, w1, if_pos rfl, this]
    exact e
/-- the whole text -/
def tx_all (N lim : Nat) (bs : List (Nat × Nat)) (ps ss : List (Nat × (Nat × Nat))) : List Nat := (jb_lit 10 ++ (jb_dec N ++ (32 :: (jb_dec lim ++ [59])))) ++ (tx_bs N bs ++ (tx_ps ps ++ tx_ss ss))
theorem o_np_lays : ∀ l r, (∀ x, x ∈ l → x.1 < 2) → o_np (o_lays r l) = o_np r := by
  intro l
  induction l with
  | nil => intro r _; rfl
  | cons x l ih =>
    intro r h
    have hx := h x List.mem_cons_self
    show o_np (o_lays (o_lay r x.1 x.2) l) = _
    rw [ih _ (fun y hy => h y (List.mem_cons_of_mem _ hy))]
    unfold o_np
    rw [o_lay_at (by omega) (by omega) (by omega)]
theorem tx_bok_2 {N : Nat} : ∀ l r, tx_bok N r l → ∀ x, x ∈ l → x.1 < 2 := by
  intro l
  induction l with
  | nil => intro r _ x hx; cases hx
  | cons y l ih =>
    intro r h x hx
    rcases List.mem_cons.mp hx with rfl | hx
    · exact h.1.1
    · exact ih _ h.2 x hx
theorem p_set_ok {A T : Nat → Int32} {n N lim : Nat} {bs : List (Nat × Nat)} {p0 : Nat × (Nat × Nat)} {ps ss : List (Nat × (Nat × Nat))} (h4 : 4 ≤ N) (h8 : N ≤ 8) (l1 : 1 ≤ lim) (l60 : lim ≤ 60) (b1 : bs.length < 800) (bok : tx_bok N (o_gm0 A N lim) bs) (pn : ps.length < 4) (pok : tx_pok (p0 :: ps)) (sn : ss.length < 800) (sok : tx_sok (ps.length + 1) ss) (h : tx_R T n 0 (tx_all N lim bs (p0 :: ps) ss)) : p_set A T n = .inr (o_snows (o_opens (o_lays (o_gm0 A N lim) bs) (p0 :: ps)) ss) := by
  have le : ∀ x y : Nat, x ≤ y → y < 100 → Int32.ofNat x ≤ Int32.ofNat y := fun x y h1 h2 => by rw [n_le (by omega) (by omega)]; exact h1
  have e : tx_all N lim bs (p0 :: ps) ss = jb_wd 1 ++ 32 :: (jb_dec N ++ 32 :: (jb_dec lim ++ 59 :: (tx_bs N bs ++ (tx3 3 p0.1 p0.2.1 p0.2.2 ++ (tx_ps ps ++ (tx_ss ss ++ [])))))) := by
    unfold tx_all
    rw [(jb_wd_ok 1 (by decide) (by decide)).1]
    show _ ++ (_ ++ ((tx3 3 p0.1 p0.2.1 p0.2.2 ++ tx_ps ps) ++ _)) = _
    simp only [List.append_assoc, List.cons_append, List.nil_append, List.append_nil]
  rw [e] at h
  obtain ⟨w1, w2, w3, -⟩ := tk_word (k := 1) (by decide) (by decide) h
  obtain ⟨s2, p2, r2⟩ := tk_num (by omega) (Or.inl rfl) w3
  obtain ⟨s3, p3, r3⟩ := tk_num (by omega) (Or.inr rfl) r2
  obtain ⟨p4, r4⟩ := tk_sgn r3
  obtain ⟨⟨x1, x2, x3, x4⟩, x5⟩ := pok
  have hd : p_head T n = .inr ((N, lim), s3 + 1) := by
    unfold p_head p_wrd
    rw [w1, if_pos rfl, w2]
    show p_bd (p_num T n _ 4 8) _ = _
    rw [p2 4 8 (le 4 N h4 (by omega)) (le N 8 h8 (by omega))]
    show p_bd (p_num T n s2 1 60) _ = _
    rw [p3 1 60 (le 1 lim l1 (by omega)) (le lim 60 l60 (by omega))]
    show p_bd (p_sgn T n s3 59) (fun s4 => .inr (((Int32.ofNat N).toNatClampNeg, (Int32.ofNat lim).toNatClampNeg), s4)) = _
    rw [p4, n_c (by omega), n_c (by omega)]
    rfl
  obtain ⟨s5, p5, r5⟩ := p_bishs_ok (T := T) (n := n) (N := N) (rest := tx3 3 p0.1 p0.2.1 p0.2.2 ++ (tx_ps ps ++ (tx_ss ss ++ []))) (by omega) h8 (fun s hs => (tk_3 (k := 3) (by decide) (by decide) (by omega) (by omega) (by omega) hs).2.1 2 (by decide) (by decide) (by decide)) bs (o_gm0 A N lim) 801 (s3 + 1) (by omega) bok r4
  obtain ⟨v1, -, s6, s7, s8, s9, q2, q3, q4, q5, q6⟩ := tk_3 (k := 3) (by decide) (by decide) (by omega) (by omega) (by omega) r5
  have np0 : o_np (o_lays (o_gm0 A N lim) bs) = 0 := by
    rw [o_np_lays _ _ (tx_bok_2 _ _ bok)]
    unfold o_np
    rw [g0_0 (by omega) (by omega) (by omega)]
    rfl
  have pp := p_pass_ok (r := o_lays (o_gm0 A N lim) bs) x1 x2 x3 x4 q2 q3 q4 q5
  have hne3 : ∀ s, tx_R T n s (tx_ss ss ++ []) → x_w T n s 3 = false := by
    intro s hs
    match ss, sok, hs with
    | [], _, hs => exact (tk_end hs).2 3
    | y :: l, sok, hs =>
      have hs' : tx_R T n s (tx3 4 y.1 y.2.1 y.2.2 ++ (tx_ss l ++ [])) := by
        rw [← List.append_assoc]
        exact hs
      have := sok.1
      exact (tk_3 (k := 4) (by decide) (by decide) (by omega) (by omega) (by omega) hs').2.1 3 (by decide) (by decide) (by decide)
  obtain ⟨s10, p10, r10⟩ := p_passs_ok hne3 ps (o_open (o_lays (o_gm0 A N lim) bs) (o_np (o_lays (o_gm0 A N lim) bs)) (Int32.ofNat p0.1) (Int32.ofNat p0.2.1) (Int32.ofNat p0.2.2)) 801 s9 (by omega) (by rw [np0, o_np_open (by omega)]; omega) x5 q6
  have np1 : o_np (o_opens (o_open (o_lays (o_gm0 A N lim) bs) (o_np (o_lays (o_gm0 A N lim) bs)) (Int32.ofNat p0.1) (Int32.ofNat p0.2.1) (Int32.ofNat p0.2.2)) ps) = ps.length + 1 := by
    rw [o_np_opens _ _ (by rw [np0, o_np_open (by omega)]; omega), np0, o_np_open (by omega)]
    omega
  obtain ⟨s11, p11, r11⟩ := p_snows_ok (np := ps.length + 1) (by omega) (fun s hs => (tk_end hs).2 4) ss _ 801 s10 (by omega) np1 sok r10
  have ke := (tk_end r11).1
  unfold p_set
  rw [hd]
  show p_body T n N (o_gm0 A N lim) (s3 + 1) = _
  unfold p_body
  rw [p5]
  show p_bd (p_wrd T n s5 3) _ = _
  unfold p_wrd
  rw [v1, if_pos rfl]
  show p_bd (p_pass T n (o_lays (o_gm0 A N lim) bs) (x_E T n s5)) _ = _
  rw [pp]
  show p_bd (p_passs T n 801 _ s9) _ = _
  rw [p10]
  show p_bd (p_snows T n 801 _ s10) _ = _
  rw [p11]
  show p_end T n _ s11 = _
  unfold p_end
  rw [if_pos ke]
  rfl
