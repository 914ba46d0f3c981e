/-! ===== words, numbers and signs; the class's text ===== -/
theorem j_sh0 (x : Int32) : j_ishr x 0 = x := by
  unfold j_ishr
  rw [show ((0 : Int32) &&& 31) = 0 by decide]
  exact Int32.shiftRight_zero
theorem lit_all : (List.range 38).all (fun k => ((ev_bt.getD k []).length == ev_le.getD k 0) && decide (ev_le.getD k 0 ≤ 154) && (ev_bt.getD k []).all (fun b => (j_i2c (b &&& 255) == b) && ((j_i2c (b &&& 255)).toUInt32.toUInt16.toUInt32.toInt32 == j_i2c (b &&& 255)))) = true := by decide +kernel
theorem lit_k {k : Nat} (hk : k < 38) : (ev_bt.getD k []).length = ev_le.getD k 0 ∧ ev_le.getD k 0 ≤ 154 ∧ ∀ b, b ∈ ev_bt.getD k [] → j_i2c (b &&& 255) = b ∧ (j_i2c (b &&& 255)).toUInt32.toUInt16.toUInt32.toInt32 = j_i2c (b &&& 255) := by
  have h := List.all_eq_true.mp lit_all k (List.mem_range.mpr hk)
  rw [Bool.and_eq_true, Bool.and_eq_true, beq_iff_eq, decide_eq_true_eq] at h
  refine ⟨h.1.1, h.1.2, fun b hb => ?_⟩
  have h2 := List.all_eq_true.mp h.2 b hb
  rw [Bool.and_eq_true, beq_iff_eq, beq_iff_eq] at h2
  exact h2
/-- the i-th byte of a literal -/
def j_lb (k i : Nat) : Int32 := (ev_bt.getD k []).getD i 0
theorem lit_b {k i : Nat} (hk : k < 38) (hi : i < ev_le.getD k 0) : j_i2c (j_byte k (Int32.ofNat i) &&& 255) = j_lb k i ∧ narrow .char (.int (j_i2c (j_byte k (Int32.ofNat i) &&& 255))) = .int (j_i2c (j_byte k (Int32.ofNat i) &&& 255)) := by
  obtain ⟨h1, h2, h3⟩ := lit_k hk
  have e : j_byte k (Int32.ofNat i) = j_lb k i := by
    unfold j_byte j_lb
    rw [n_c (by omega)]
  have hm : j_lb k i ∈ ev_bt.getD k [] := by
    unfold j_lb
    have hl : i < (ev_bt.getD k []).length := by omega
    generalize ev_bt.getD k [] = l at hl ⊢
    rw [List.getD_eq_getElem?_getD, List.getElem?_eq_getElem hl, Option.getD_some]
    exact List.getElem_mem _
  obtain ⟨h4, h5⟩ := h3 _ hm
  rw [e]
  exact ⟨h4, congrArg Value.int h5⟩
def x_wm (T : Nat → Int32) (b k : Nat) : Nat → Bool
  | 0 => true
  | i + 1 => x_wm T b k i && decide (T (b + i) = j_lb k i)
def x_w (T : Nat → Int32) (n s k : Nat) : Bool := decide (x_K T n s = 1 ∧ x_E T n s - x_B T n s = ev_le.getD k 0) && x_wm T (x_B T n s) k (ev_le.getD k 0)
theorem x_w_1 {T : Nat → Int32} {n s k : Nat} (h : x_w T n s k = true) : x_K T n s = 1 ∧ x_E T n s - x_B T n s = ev_le.getD k 0 := by
  unfold x_w at h
  rw [Bool.and_eq_true, decide_eq_true_eq] at h
  exact h.1
theorem x_wm_f {T : Nat → Int32} {b k i : Nat} (h : ¬ T (b + i) = j_lb k i) : ∀ j, i < j → ¬ x_wm T b k j = true := by
  intro j
  induction j with
  | zero => intro h; omega
  | succ j ih =>
    intro hj hh
    rw [x_wm, Bool.and_eq_true, decide_eq_true_eq] at hh
    by_cases hij : i = j
    · subst hij; exact h hh.2
    · exact ih (by omega) hh.1
theorem x_wm_t {T : Nat → Int32} {b k i : Nat} (h1 : x_wm T b k i = true) (h : T (b + i) = j_lb k i) : x_wm T b k (i + 1) = true := by
  rw [x_wm, Bool.and_eq_true, decide_eq_true_eq]
  exact ⟨h1, h⟩
/-- the class's text at a, its token looked for from s on -/
def q_tk (M : Nat → Nat → Int32) (a n : Nat) (T : Nat → Int32) (s : Nat) : Prop :=
  M a 1 = Int32.ofNat n ∧ (∀ j, j < n → M (a + 1) j = T j) ∧ M a 7 = 0 ∧ M a 8 = -1 ∧ M a 4 = Int32.ofNat (x_B T n s) ∧ M a 2 = x_K T n s ∧ M a 3 = x_V T n s ∧ M a 5 = Int32.ofNat (x_E T n s)
/-- the class's text has an error -/
def q_te (M : Nat → Nat → Int32) (a : Nat) (c : Int32) (p : Nat) : Prop := M a 7 = c ∧ ¬ c = 0 ∧ M a 8 = Int32.ofNat p
def q_1 (S z : ev_S) (a : Nat) : Prop := z.2 = S.2 ∧ ∀ q, q ≠ a → z.1 q = S.1 q
theorem q_1_refl (S : ev_S) (a : Nat) : q_1 S S a := ⟨rfl, fun _ _ => rfl⟩
theorem q_1_trans {S z y : ev_S} {a : Nat} (h : q_1 S z a) (h2 : q_1 z y a) : q_1 S y a := ⟨h2.1.trans h.1, fun q hq => (h2.2 q hq).trans (h.2 q hq)⟩
theorem q_tk_frame {M M' : Nat → Nat → Int32} {a n s : Nat} {T : Nat → Int32} (h : q_tk M a n T s) (f : M' a = M a) (f1 : M' (a + 1) = M (a + 1)) : q_tk M' a n T s := by
  unfold q_tk at *
  rw [f, f1]
  exact h
theorem t_isW {g : ev_G} {S : ev_S} {a n s k : Nat} {T : Nat → Int32} (hn : n ≤ 800) (hs : s ≤ n) (hk : k < 38) (h : q_tk S.1 a n T s) : ev_Fn g m_X8_isWord 5 [ev_o 8 a, ev_x 1 k] S (some (ev_i (if x_w T n s k = true then 1 else 0))) S := by
  intro Q hQ
  obtain ⟨h1, hT, h7, h8, h4, h2, h3, h5⟩ := h
  obtain ⟨l1, l2, l3⟩ := lit_k hk
  have hb := x_B_le (T := T) hs
  have he := x_E_le (T := T) hs
  have hbe := (x_Eb_le (T := T) hb.2).1
  have hbe' : x_B T n s ≤ x_E T n s := hbe
  have y1 : x_w T n s k = true → Q (.inl (some (ev_i 1))) S := fun h => by rw [if_pos h] at hQ; exact hQ
  have y0 : ¬ x_w T n s k = true → Q (.inl (some (ev_i 0))) S := fun h => by rw [if_neg h] at hQ; exact hQ
  clear hQ
  refine sg_X8_isWord_0 a k (j_pos h7 ?_)
  rw [h2, h5, h4, n_sub _ _ hbe', j_sh0, n_eq (by omega) (by omega)]
  refine ⟨fun c1 => ⟨fun c2 => ?_, fun c2 => y0 (fun hh => c2 (x_w_1 hh).2)⟩, fun c1 => y0 (fun hh => c1 (x_w_1 hh).1)⟩
  have hval : x_w T n s k = x_wm T (x_B T n s) k (ev_le.getD k 0) := by
    unfold x_w
    rw [decide_eq_true ⟨c1, c2⟩, Bool.true_and]
  have key : ∀ m i : Nat, i + m = ev_le.getD k 0 → x_wm T (x_B T n s) k i = true → ev_E g m_X8_isWord 5 0 35 [some (ev_o 8 a), some (ev_x 1 k), some (ev_i (Int32.ofNat i))] [] S Q := by
    intro m
    induction m with
    | zero =>
      intro i hi hw
      have : i = ev_le.getD k 0 := by omega
      subst this
      exact sg_X8_isWord_35 a k _ (j_pos (by rw [j_sh0]; exact Int32.le_refl _) (y1 (by rw [hval]; exact hw)))
    | succ m ih =>
      intro i hi hw
      refine sg_X8_isWord_35 a k _ (j_neg (by rw [j_sh0, n_le (by omega) (by omega)]; omega) ?_)
      obtain ⟨b1, b2⟩ := lit_b hk (i := i) (by omega)
      refine ⟨fun hh => by rw [n_neg (by omega)] at hh; exact hh, fun _ hh => hh (by rw [n_lt (by omega) (by omega)]; omega), (n_vp (by omega) (by omega)).mpr trivial, b2, ?_⟩
      rw [b1, h4, n_add, a_in (by omega) (by omega), hT _ (by omega), n_inc]
      refine ⟨fun he => ih (i + 1) (by omega) (x_wm_t hw he), fun he => y0 (by rw [hval]; exact x_wm_f he _ (by omega))⟩
  exact key (ev_le.getD k 0) 0 (by omega) rfl
theorem t_isW_e {g : ev_G} {S : ev_S} {a k : Nat} (h : ¬ S.1 a 7 = 0) : ev_Fn g m_X8_isWord 5 [ev_o 8 a, ev_x 1 k] S (some (ev_i (if false = true then 1 else 0))) S := by
  intro Q hQ
  exact sg_X8_isWord_0 a k (j_neg h hQ)
/-- on to the next token -/
theorem t_stp {g : ev_G} {S : ev_S} {a n s : Nat} {T : Nat → Int32} (hn : n ≤ 800) (hs : s ≤ n) (h : q_tk S.1 a n T s) {Q : ev_O → ev_S → Prop}
    (hQ : ∀ z, q_1 S z a → q_tk z.1 a n T (x_E T n s) → z.1 a 6 = Int32.ofNat (x_B T n s) → Q (.inl none) z) : ev_Cv g m_X8_step 3 0 [ev_o 8 a] S Q := by
  obtain ⟨h1, hT, h7, h8, h4, h2, h3, h5⟩ := h
  have he := x_E_le (T := T) hs
  refine t_step hn h1 hT h5 he.2 (fun z z0 zq z1 z7 z8 z6 z4 z2 z3 z5 => hQ z ⟨z0, zq⟩ ⟨z1, fun j hj => by rw [zq _ (by omega)]; exact hT j hj, by rw [z7]; exact h7, by rw [z8]; exact h8, z4, z2, z3, z5⟩ (by rw [z6]; exact h4))
theorem t_beg {g : ev_G} {S : ev_S} {a n : Nat} {T : Nat → Int32} (hn : n ≤ 800) (h1 : S.1 a 1 = Int32.ofNat n) (hT : ∀ j, j < n → S.1 (a + 1) j = T j) {Q : ev_O → ev_S → Prop}
    (hQ : ∀ z, q_1 S z a → q_tk z.1 a n T 0 → Q (.inl none) z) : ev_Cv g m_X8_begin 4 0 [ev_o 8 a] S Q := by
  refine sg_X8_begin_0 a (fun S1 e1 S2 e2 S3 e3 => ?_)
  have xq : ∀ q, q ≠ a → S3.1 q = S.1 q := fun q hq => by rw [e3, m_r hq, e2, m_r hq, e1, m_r hq]
  refine t_step (s := 0) hn (by rw [e3, m_k (by omega), e2, m_k (by omega), e1, m_k (by omega)]; exact h1) (fun j hj => by rw [xq _ (by omega)]; exact hT j hj) (by rw [e3, m_s]; rfl) (Nat.zero_le _) (fun z z0 zq z1 z7 z8 z6 z4 z2 z3 z5 => ⟨rfl, hQ z ⟨by rw [z0, e3, e2, e1]; rfl, fun q hq => by rw [zq q hq, xq q hq]⟩ ⟨z1, fun j hj => by rw [zq _ (by omega), xq _ (by omega)]; exact hT j hj, ?_, ?_, z4, z2, z3, z5⟩⟩)
  · rw [z7, e3, m_k (by omega), e2, m_k (by omega), e1, m_s]
  · rw [z8, e3, m_k (by omega), e2, m_s]
theorem t_fail {g : ev_G} {S : ev_S} {a n s : Nat} {T : Nat → Int32} {c : Int32} (hc : ¬ c = 0) (h : q_tk S.1 a n T s) {Q : ev_O → ev_S → Prop}
    (hQ : ∀ z, q_1 S z a → q_te z.1 a c (x_B T n s) → Q (.inl none) z) : ev_Cv g m_X8_fail 1 0 [ev_o 8 a, ev_i c] S Q := by
  obtain ⟨h1, hT, h7, h8, h4, h2, h3, h5⟩ := h
  refine sg_X8_fail_0 a c (j_pos h7 (fun S1 e1 S2 e2 => hQ S2 ⟨by rw [e2, e1]; rfl, fun q hq => by rw [e2, m_r hq, e1, m_r hq]⟩ ⟨?_, hc, ?_⟩))
  · rw [e2, m_k (by omega), e1, m_s]
  · rw [e2, m_s]; exact h4
theorem t_fail_e {g : ev_G} {S : ev_S} {a : Nat} {c : Int32} (h : ¬ S.1 a 7 = 0) {Q : ev_O → ev_S → Prop} (hQ : Q (.inl none) S) : ev_Cv g m_X8_fail 1 0 [ev_o 8 a, ev_i c] S Q := sg_X8_fail_0 a c (j_neg h hQ)
theorem t_failB {g : ev_G} {S : ev_S} {a n s p : Nat} {T : Nat → Int32} {c : Int32} (hc : ¬ c = 0) (h : q_tk S.1 a n T s) (h6 : S.1 a 6 = Int32.ofNat p) {Q : ev_O → ev_S → Prop}
    (hQ : ∀ z, q_1 S z a → q_te z.1 a c p → Q (.inl none) z) : ev_Cv g m_X8_failBefore 1 0 [ev_o 8 a, ev_i c] S Q := by
  obtain ⟨h1, hT, h7, h8, h4, h2, h3, h5⟩ := h
  refine sg_X8_failBefore_0 a c (j_pos h7 (fun S1 e1 S2 e2 => hQ S2 ⟨by rw [e2, e1]; rfl, fun q hq => by rw [e2, m_r hq, e1, m_r hq]⟩ ⟨?_, hc, ?_⟩))
  · rw [e2, m_k (by omega), e1, m_s]
  · rw [e2, m_s]; exact h6
theorem t_failB_e {g : ev_G} {S : ev_S} {a : Nat} {c : Int32} (h : ¬ S.1 a 7 = 0) {Q : ev_O → ev_S → Prop} (hQ : Q (.inl none) S) : ev_Cv g m_X8_failBefore 1 0 [ev_o 8 a, ev_i c] S Q := sg_X8_failBefore_0 a c (j_neg h hQ)
/-- what is read: an error's code and place, or what follows -/
def p_num (T : Nat → Int32) (n s : Nat) (lo hi : Int32) : (Int32 × Nat) ⊕ (Int32 × Nat) :=
  if x_K T n s = 2 then (if x_V T n s < lo ∨ hi < x_V T n s then .inl (2, x_B T n s) else .inr (x_V T n s, x_E T n s)) else .inl (1, x_B T n s)
theorem t_num {g : ev_G} {S : ev_S} {a n s : Nat} {T : Nat → Int32} {lo hi : Int32} (hn : n ≤ 800) (hs : s ≤ n) (h : q_tk S.1 a n T s) {Q : ev_O → ev_S → Prop}
    (q1 : ∀ c p, p_num T n s lo hi = .inl (c, p) → ∀ z, q_1 S z a → q_te z.1 a c p → Q (.inl (some (ev_i lo))) z)
    (q2 : ∀ v s', p_num T n s lo hi = .inr (v, s') → lo ≤ v → v ≤ hi → s ≤ s' → s' ≤ n → ∀ z, q_1 S z a → q_tk z.1 a n T s' → z.1 a 6 = Int32.ofNat (x_B T n s) → Q (.inl (some (ev_i v))) z) :
    ev_Cv g m_X8_number 4 0 [ev_o 8 a, ev_i lo, ev_i hi] S Q := by
  have hh := h
  obtain ⟨h1, hT, h7, h8, h4, h2, h3, h5⟩ := h
  have he := x_E_le (T := T) hs
  refine sg_X8_number_0 a lo hi ?_
  rw [h2, h3]
  have bad : ∀ c : Int32, ¬ c = 0 → p_num T n s lo hi = .inl (c, x_B T n s) → ev_Cv g m_X8_fail 1 0 [ev_o 8 a, ev_i c] S (fun o S1 => o = .inl none ∧ ((S1.1 a 7 = 0 → ev_Cv g m_X8_step 3 0 [ev_o 8 a] S1 (fun o S2 => o = .inl none ∧ Q (.inl (some (ev_i (S1.1 a 3)))) S2)) ∧ (¬ S1.1 a 7 = 0 → Q (.inl (some (ev_i lo))) S1))) := by
    intro c hc hp
    refine t_fail hc hh (fun z z1 z2 => ⟨rfl, j_neg (by rw [z2.1]; exact z2.2.1) (q1 c _ hp z z1 z2)⟩)
  refine ⟨fun c1 => ⟨fun c2 => bad 2 (by decide) (by rw [p_num, if_pos c1, if_pos (Or.inl c2)]), fun c2 => ⟨fun c3 => j_pos h7 ?_, fun c3 => bad 2 (by decide) (by rw [p_num, if_pos c1, if_pos (Or.inr (Int32.not_le.mp c3))])⟩⟩, fun c1 => bad 1 (by decide) (by rw [p_num, if_neg c1])⟩
  refine t_stp hn hs hh (fun z z1 z2 z6 => ⟨rfl, q2 _ _ ?_ (Int32.not_lt.mp c2) c3 he.1 he.2 z z1 z2 z6⟩)
  rw [p_num, if_pos c1, if_neg (fun q => by rcases q with q | q; exact c2 q; exact Int32.not_lt.mpr c3 q)]
theorem t_num_e {g : ev_G} {S : ev_S} {a : Nat} {lo hi : Int32} (h : ¬ S.1 a 7 = 0) {Q : ev_O → ev_S → Prop} (hQ : Q (.inl (some (ev_i lo))) S) : ev_Cv g m_X8_number 4 0 [ev_o 8 a, ev_i lo, ev_i hi] S Q := by
  have bad : ∀ c : Int32, ev_Cv g m_X8_fail 1 0 [ev_o 8 a, ev_i c] S (fun o S1 => o = .inl none ∧ ((S1.1 a 7 = 0 → ev_Cv g m_X8_step 3 0 [ev_o 8 a] S1 (fun o S2 => o = .inl none ∧ Q (.inl (some (ev_i (S1.1 a 3)))) S2)) ∧ (¬ S1.1 a 7 = 0 → Q (.inl (some (ev_i lo))) S1))) := fun c => t_fail_e h ⟨rfl, j_neg h hQ⟩
  exact sg_X8_number_0 a lo hi ⟨fun _ => ⟨fun _ => bad 2, fun _ => ⟨fun _ => j_neg h hQ, fun _ => bad 2⟩⟩, fun _ => bad 1⟩
def p_sg (T : Nat → Int32) (n s : Nat) (c : Int32) : Bool := decide (x_K T n s = 3 ∧ x_V T n s = c)
theorem t_isS {M : ev_S} {a n s : Nat} {T : Nat → Int32} {c : Int32} (h : q_tk M.1 a n T s) : t_X8_isSign M a c = p_sg T n s c := by
  obtain ⟨h1, hT, h7, h8, h4, h2, h3, h5⟩ := h
  unfold t_X8_isSign p_sg
  rw [if_pos h7, h2, h3]
  by_cases c1 : x_K T n s = 3
  · rw [if_pos c1]
    by_cases c2 : x_V T n s = c
    · rw [if_pos c2]; simp [c1, c2]
    · rw [if_neg c2]; simp [c2]
  · rw [if_neg c1]; simp [c1]
theorem t_isS_e {M : ev_S} {a : Nat} {c : Int32} (h : ¬ M.1 a 7 = 0) : t_X8_isSign M a c = false := by
  unfold t_X8_isSign
  rw [if_neg h]
theorem t_expS {g : ev_G} {S : ev_S} {a n s : Nat} {T : Nat → Int32} {c : Int32} (hn : n ≤ 800) (hs : s ≤ n) (h : q_tk S.1 a n T s) {Q : ev_O → ev_S → Prop}
    (q1 : ¬ p_sg T n s c = true → ∀ z, q_1 S z a → q_te z.1 a 1 (x_B T n s) → Q (.inl none) z)
    (q2 : p_sg T n s c = true → s ≤ x_E T n s → x_E T n s ≤ n → ∀ z, q_1 S z a → q_tk z.1 a n T (x_E T n s) → Q (.inl none) z) :
    ev_Cv g m_X8_expectSign 4 0 [ev_o 8 a, ev_i c] S Q := by
  have he := x_E_le (T := T) hs
  refine sg_X8_expectSign_0 a c ?_
  rw [t_isS h]
  exact ⟨fun c1 => t_stp hn hs h (fun z z1 z2 _ => ⟨rfl, q2 c1 he.1 he.2 z z1 z2⟩), fun c1 => t_fail (by decide) h (fun z z1 z2 => ⟨rfl, q1 c1 z z1 z2⟩)⟩
theorem t_expS_e {g : ev_G} {S : ev_S} {a : Nat} {c : Int32} (h : ¬ S.1 a 7 = 0) {Q : ev_O → ev_S → Prop} (hQ : Q (.inl none) S) : ev_Cv g m_X8_expectSign 4 0 [ev_o 8 a, ev_i c] S Q := by
  refine sg_X8_expectSign_0 a c ?_
  rw [t_isS_e h]
  exact ⟨fun c1 => absurd c1 (by decide), fun _ => t_fail_e h ⟨rfl, hQ⟩⟩
theorem t_expW {g : ev_G} {S : ev_S} {a n s k : Nat} {T : Nat → Int32} (hn : n ≤ 800) (hs : s ≤ n) (hk : k < 38) (h : q_tk S.1 a n T s) {Q : ev_O → ev_S → Prop}
    (q1 : ¬ x_w T n s k = true → ∀ z, q_1 S z a → q_te z.1 a 1 (x_B T n s) → Q (.inl none) z)
    (q2 : x_w T n s k = true → s ≤ x_E T n s → x_E T n s ≤ n → ∀ z, q_1 S z a → q_tk z.1 a n T (x_E T n s) → Q (.inl none) z) :
    ev_Cv g m_X8_expectWord 6 0 [ev_o 8 a, ev_x 1 k] S Q := by
  have he := x_E_le (T := T) hs
  refine sg_X8_expectWord_0 a k (t_isW hn hs hk h _ ⟨x_w T n s k, rfl, fun c1 => ?_, fun c1 => ?_⟩)
  · exact t_stp hn hs h (fun z z1 z2 _ => ⟨rfl, q2 c1 he.1 he.2 z z1 z2⟩)
  · exact t_fail (by decide) h (fun z z1 z2 => ⟨rfl, q1 c1 z z1 z2⟩)
theorem t_expW_e {g : ev_G} {S : ev_S} {a k : Nat} (h : ¬ S.1 a 7 = 0) {Q : ev_O → ev_S → Prop} (hQ : Q (.inl none) S) : ev_Cv g m_X8_expectWord 6 0 [ev_o 8 a, ev_x 1 k] S Q :=
  sg_X8_expectWord_0 a k (t_isW_e h _ ⟨false, rfl, fun c1 => absurd c1 (by decide), fun _ => t_fail_e h ⟨rfl, hQ⟩⟩)
theorem t_skipW {g : ev_G} {S : ev_S} {a n s k : Nat} {T : Nat → Int32} (hn : n ≤ 800) (hs : s ≤ n) (hk : k < 38) (h : q_tk S.1 a n T s) {Q : ev_O → ev_S → Prop}
    (q1 : ¬ x_w T n s k = true → Q (.inl (some (ev_i (if false = true then 1 else 0)))) S)
    (q2 : x_w T n s k = true → s ≤ x_E T n s → x_E T n s ≤ n → ∀ z, q_1 S z a → q_tk z.1 a n T (x_E T n s) → Q (.inl (some (ev_i (if true = true then 1 else 0)))) z) :
    ev_Cv g m_X8_skipWord 6 0 [ev_o 8 a, ev_x 1 k] S Q := by
  have he := x_E_le (T := T) hs
  refine sg_X8_skipWord_0 a k (t_isW hn hs hk h _ ⟨x_w T n s k, rfl, fun c1 => ?_, fun c1 => q1 c1⟩)
  exact t_stp hn hs h (fun z z1 z2 _ => ⟨rfl, q2 c1 he.1 he.2 z z1 z2⟩)
theorem t_skipW_e {g : ev_G} {S : ev_S} {a k : Nat} (h : ¬ S.1 a 7 = 0) {Q : ev_O → ev_S → Prop} (hQ : Q (.inl (some (ev_i (if false = true then 1 else 0)))) S) : ev_Cv g m_X8_skipWord 6 0 [ev_o 8 a, ev_x 1 k] S Q :=
  sg_X8_skipWord_0 a k (t_isW_e h _ ⟨false, rfl, fun c1 => absurd c1 (by decide), fun _ => hQ⟩)
theorem t_expE {g : ev_G} {S : ev_S} {a n s : Nat} {T : Nat → Int32} (h : q_tk S.1 a n T s) {Q : ev_O → ev_S → Prop}
    (q1 : ¬ x_K T n s = 0 → ∀ z, q_1 S z a → q_te z.1 a 1 (x_B T n s) → Q (.inl none) z) (q2 : x_K T n s = 0 → Q (.inl none) S) : ev_Cv g m_X8_expectEnd 2 0 [ev_o 8 a] S Q := by
  refine sg_X8_expectEnd_0 a ?_
  rw [h.2.2.2.2.2.1]
  exact ⟨q2, fun c => t_fail (by decide) h (fun z z1 z2 => ⟨rfl, q1 c z z1 z2⟩)⟩
theorem t_expE_e {g : ev_G} {S : ev_S} {a : Nat} (h : ¬ S.1 a 7 = 0) {Q : ev_O → ev_S → Prop} (hQ : Q (.inl none) S) : ev_Cv g m_X8_expectEnd 2 0 [ev_o 8 a] S Q :=
  sg_X8_expectEnd_0 a ⟨fun _ => hQ, fun _ => t_fail_e h ⟨rfl, hQ⟩⟩
