/-! ===== the reference's text ===== -/
def m_tk (M : Nat → Nat → Int32) (a n : Nat) (T : Nat → Int32) (s : Nat) : Prop :=
  M a 10 = Int32.ofNat n ∧ (∀ j, j < n → M (a + 7) j = T j) ∧ M a 17 = 0 ∧ M a 18 = -1 ∧ M a 14 = Int32.ofNat (x_B T n s) ∧ M a 15 = x_K T n s ∧ (x_K T n s = 2 → M a 16 = x_V T n s) ∧ M a 13 = Int32.ofNat (x_E T n s)
def m_te (M : Nat → Nat → Int32) (a : Nat) (c : Int32) (p : Nat) : Prop := M a 17 = c ∧ ¬ c = 0 ∧ M a 18 = Int32.ofNat p
def m_1 (S z : ev_S) (a : Nat) : Prop := z.2 = S.2 ∧ (∀ q, q ≠ a → z.1 q = S.1 q) ∧ ∀ i, (i < 13 ∨ 18 < i) → z.1 a i = S.1 a i
theorem m_1_refl (S : ev_S) (a : Nat) : m_1 S S a := ⟨rfl, fun _ _ => rfl, fun _ _ => rfl⟩
theorem m_1_trans {S z y : ev_S} {a : Nat} (h : m_1 S z a) (h2 : m_1 z y a) : m_1 S y a := ⟨h2.1.trans h.1, fun q hq => (h2.2.1 q hq).trans (h.2.1 q hq), fun i hi => (h2.2.2 i hi).trans (h.2.2 i hi)⟩
theorem m_tk_frame {M M' : Nat → Nat → Int32} {a n s : Nat} {T : Nat → Int32} (h : m_tk M a n T s) (f : M' a = M a) (f7 : M' (a + 7) = M (a + 7)) : m_tk M' a n T s := by
  unfold m_tk at *
  rw [f, f7]
  exact h
theorem c_stp {g : ev_G} {S : ev_S} {a n s : Nat} {T : Nat → Int32} (hn : n ≤ 800) (hm : ∀ j, j < n → ¬ T j = -1) (hs : s ≤ n) (h : m_tk S.1 a n T s) {Q : ev_O → ev_S → Prop}
    (hQ : ∀ z, m_1 S z a → m_tk z.1 a n T (x_E T n s) → Q (.inl none) z) : ev_Cv g m_X10_reads 2 0 [ev_o 10 a] S Q := by
  obtain ⟨h1, hT, h7, h8, h4, h2, h3, h5⟩ := h
  have he := x_E_le (T := T) hs
  refine c_reads hn h1 hT hm h5 he.2 (fun z z0 zq zi z13 z14 z15 z16 => hQ z ⟨z0, zq, fun i hi => zi i (by omega) (by omega) (by omega) (by omega)⟩ ⟨by rw [zi _ (by omega) (by omega) (by omega) (by omega)]; exact h1, fun j hj => by rw [zq _ (by omega)]; exact hT j hj, by rw [zi _ (by omega) (by omega) (by omega) (by omega)]; exact h7, by rw [zi _ (by omega) (by omega) (by omega) (by omega)]; exact h8, z14, z15, z16, z13⟩)
theorem c_start {g : ev_G} {S : ev_S} {a n : Nat} {T : Nat → Int32} (hn : n ≤ 800) (hm : ∀ j, j < n → ¬ T j = -1) (h1 : S.1 a 10 = Int32.ofNat n) (hT : ∀ j, j < n → S.1 (a + 7) j = T j) {Q : ev_O → ev_S → Prop}
    (hQ : ∀ z, m_1 S z a → m_tk z.1 a n T 0 → Q (.inl none) z) : ev_Cv g m_X10_starts 3 0 [ev_o 10 a] S Q := by
  refine sg_X10_starts_0 a (fun S1 e1 S2 e2 S3 e3 => ?_)
  have xq : ∀ q, q ≠ a → S3.1 q = S.1 q := fun q hq => by rw [e3, m_r hq, e2, m_r hq, e1, m_r hq]
  have xi : ∀ i, i ≠ 13 → i ≠ 17 → i ≠ 18 → S3.1 a i = S.1 a i := fun i h1 h2 h3 => by rw [e3, m_k h3, e2, m_k h2, e1, m_k h1]
  have x10 : S3.1 a 10 = Int32.ofNat n := by rw [xi _ (by omega) (by omega) (by omega)]; exact h1
  refine c_reads (s := 0) hn x10 (fun j hj => by rw [xq _ (by omega)]; exact hT j hj) hm (by rw [e3, m_k (by omega), e2, m_k (by omega), e1, m_s]; rfl) (Nat.zero_le _) (fun z z0 zq zi z13 z14 z15 z16 => ⟨rfl, hQ z ⟨by rw [z0, e3, e2, e1]; rfl, fun q hq => by rw [zq q hq, xq q hq], fun i hi => by rw [zi i (by omega) (by omega) (by omega) (by omega), xi i (by omega) (by omega) (by omega)]⟩ ⟨by rw [zi _ (by omega) (by omega) (by omega) (by omega)]; exact x10, fun j hj => by rw [zq _ (by omega), xq _ (by omega)]; exact hT j hj, ?_, ?_, z14, z15, z16, z13⟩⟩)
  · rw [zi _ (by omega) (by omega) (by omega) (by omega), e3, m_k (by omega), e2, m_s]
  · rw [zi _ (by omega) (by omega) (by omega) (by omega), e3, m_s]
theorem c_must_t {g : ev_G} {S : ev_S} {a : Nat} {c : Int32} (h : S.1 a 17 = 0) {Q : ev_O → ev_S → Prop} (hQ : Q (.inl (some (ev_i (if true = true then 1 else 0)))) S) : ev_Cv g m_X10_must 1 0 [ev_o 10 a, ev_i 1, ev_i c] S Q :=
  sg_X10_must_0 a 1 c (j_pos h (j_neg (by decide) hQ))
theorem c_must_f {g : ev_G} {S : ev_S} {a n s : Nat} {T : Nat → Int32} {c : Int32} (hc : ¬ c = 0) (h : m_tk S.1 a n T s) {Q : ev_O → ev_S → Prop}
    (hQ : ∀ z, m_1 S z a → m_te z.1 a c (x_B T n s) → z.1 a 16 = S.1 a 16 → Q (.inl (some (ev_i (if false = true then 1 else 0)))) z) : ev_Cv g m_X10_must 1 0 [ev_o 10 a, ev_i 0, ev_i c] S Q := by
  obtain ⟨h1, hT, h7, h8, h4, h2, h3, h5⟩ := h
  refine sg_X10_must_0 a 0 c (j_pos h7 (j_pos rfl (fun S1 e1 S2 e2 => j_neg hc (hQ S2 ⟨by rw [e2, e1]; rfl, fun q hq => by rw [e2, m_r hq, e1, m_r hq], fun i hi => by rw [e2, m_k (by omega), e1, m_k (by omega)]⟩ ⟨?_, hc, ?_⟩ ?_))))
  · rw [e2, m_k (by omega), e1, m_s]
  · rw [e2, m_s]; exact h4
  · rw [e2, m_k (by omega), e1, m_k (by omega)]
theorem c_must_e {g : ev_G} {S : ev_S} {a : Nat} {x c : Int32} (h : ¬ S.1 a 17 = 0) {Q : ev_O → ev_S → Prop} (hQ : Q (.inl (some (ev_i (if false = true then 1 else 0)))) S) : ev_Cv g m_X10_must 1 0 [ev_o 10 a, ev_i x, ev_i c] S Q :=
  sg_X10_must_0 a x c (j_neg h hQ)
theorem c_pass {g : ev_G} {S : ev_S} {a n s : Nat} {T : Nat → Int32} (hn : n ≤ 800) (hm : ∀ j, j < n → ¬ T j = -1) (hs : s ≤ n) (h : m_tk S.1 a n T s) {Q : ev_O → ev_S → Prop}
    (hQ : ∀ z, m_1 S z a → m_tk z.1 a n T (x_E T n s) → Q (.inl none) z) : ev_Cv g m_X10_passes 3 0 [ev_o 10 a] S Q :=
  sg_X10_passes_0 a (j_pos h.2.2.1 (c_stp hn hm hs h (fun z z1 z2 => ⟨rfl, hQ z z1 z2⟩)))
theorem c_pass_e {g : ev_G} {S : ev_S} {a : Nat} (h : ¬ S.1 a 17 = 0) {Q : ev_O → ev_S → Prop} (hQ : Q (.inl none) S) : ev_Cv g m_X10_passes 3 0 [ev_o 10 a] S Q := sg_X10_passes_0 a (j_neg h hQ)
theorem c_looks {g : ev_G} {S : ev_S} {a n s : Nat} {T : Nat → Int32} {lo hi : Int32} (h : m_tk S.1 a n T s) {Q : ev_O → ev_S → Prop}
    (q1 : ∀ c p, p_num T n s lo hi = .inl (c, p) → ∀ z, m_1 S z a → m_te z.1 a c p → Q (.inl (some (ev_i (if false = true then 1 else 0)))) z)
    (q2 : ∀ v s', p_num T n s lo hi = .inr (v, s') → lo ≤ v → v ≤ hi → S.1 a 16 = v → s' = x_E T n s → Q (.inl (some (ev_i (if true = true then 1 else 0)))) S) :
    ev_Cv g m_X10_looksAt 2 0 [ev_o 10 a, ev_i lo, ev_i hi] S Q := by
  have hh := h
  obtain ⟨h1, hT, h7, h8, h4, h2, h3, h5⟩ := h
  refine sg_X10_looksAt_0 a lo hi ?_
  rw [h2]
  refine ⟨fun c1 => ?_, fun c1 => ?_⟩
  · have h16 := h3 c1
    refine c_must_t h7 ⟨true, rfl, fun _ => ?_, fun hf => absurd rfl hf⟩
    rw [h16, n_in]
    refine ⟨fun c2 => c_must_t h7 ⟨true, rfl, j_pos h7 (q2 _ _ ?_ c2.1 c2.2 h16 rfl)⟩, fun c2 => ?_⟩
    · rw [p_num, if_pos c1, if_neg (fun q => by rcases q with q | q; exact Int32.not_lt.mpr c2.1 q; exact Int32.not_lt.mpr c2.2 q)]
    · refine c_must_f (by decide) hh (fun z z1 z2 z3 => ⟨false, rfl, j_neg (by rw [z2.1]; decide) (q1 _ _ ?_ z z1 z2)⟩)
      rw [p_num, if_pos c1, if_pos]
      by_cases c3 : x_V T n s < lo
      · exact Or.inl c3
      · exact Or.inr (Int32.not_le.mp (fun c4 => c2 ⟨Int32.not_lt.mp c3, c4⟩))
  · refine c_must_f (by decide) hh (fun z z1 z2 z3 => ⟨false, rfl, fun hf => absurd hf (by decide), fun _ => j_neg (by rw [z2.1]; decide) (q1 _ _ ?_ z z1 z2)⟩)
    rw [p_num, if_neg c1]
theorem c_looks_e {g : ev_G} {S : ev_S} {a : Nat} {lo hi : Int32} (h : ¬ S.1 a 17 = 0) {Q : ev_O → ev_S → Prop} (hQ : Q (.inl (some (ev_i (if false = true then 1 else 0)))) S) :
    ev_Cv g m_X10_looksAt 2 0 [ev_o 10 a, ev_i lo, ev_i hi] S Q := by
  have f : (false = true) → False := fun h => absurd h (by decide)
  exact sg_X10_looksAt_0 a lo hi ⟨fun _ => c_must_e h ⟨false, rfl, fun hf => (f hf).elim, fun _ => j_neg h hQ⟩, fun _ => c_must_e h ⟨false, rfl, fun hf => (f hf).elim, fun _ => j_neg h hQ⟩⟩
theorem c_num {g : ev_G} {S : ev_S} {a n s : Nat} {T : Nat → Int32} {lo hi : Int32} (hn : n ≤ 800) (hm : ∀ j, j < n → ¬ T j = -1) (hs : s ≤ n) (h : m_tk S.1 a n T s) {Q : ev_O → ev_S → Prop}
    (q1 : ∀ c p, p_num T n s lo hi = .inl (c, p) → ∀ v z, m_1 S z a → m_te z.1 a c p → Q (.inl (some (ev_i v))) z)
    (q2 : ∀ v s', p_num T n s lo hi = .inr (v, s') → lo ≤ v → v ≤ hi → s ≤ s' → s' ≤ n → ∀ z, m_1 S z a → m_tk z.1 a n T s' → Q (.inl (some (ev_i v))) z) :
    ev_Cv g m_X10_number 4 0 [ev_o 10 a, ev_i lo, ev_i hi] S Q := by
  have he := x_E_le (T := T) hs
  refine sg_X10_number_0 a lo hi (c_looks h (fun c p hp z z1 z2 => ⟨false, rfl, fun hf => absurd hf (by decide), fun _ => c_pass_e (by rw [z2.1]; exact z2.2.1) ⟨rfl, q1 c p hp _ z z1 z2⟩⟩) (fun v s' hp h1 h2 h16 hs' => ⟨true, rfl, fun _ => ?_, fun hf => absurd rfl hf⟩))
  subst hs'
  rw [h16]
  exact c_pass hn hm hs h (fun z z1 z2 => ⟨rfl, q2 v _ hp h1 h2 he.1 he.2 z z1 z2⟩)
theorem c_num_e {g : ev_G} {S : ev_S} {a : Nat} {lo hi : Int32} (h : ¬ S.1 a 17 = 0) {Q : ev_O → ev_S → Prop} (hQ : Q (.inl (some (ev_i (S.1 a 16)))) S) : ev_Cv g m_X10_number 4 0 [ev_o 10 a, ev_i lo, ev_i hi] S Q :=
  sg_X10_number_0 a lo hi (c_looks_e h ⟨false, rfl, fun hf => absurd hf (by decide), fun _ => c_pass_e h ⟨rfl, hQ⟩⟩)
theorem x_K3 {T : Nat → Int32} {n s : Nat} (h : x_K T n s = 3) : x_V T n s = T (x_B T n s) ∧ x_B T n s < n := by
  unfold x_K x_Kb at h
  unfold x_V x_Vb
  by_cases h1 : n ≤ x_B T n s
  · rw [if_pos h1] at h; exact absurd h (by decide)
  · rw [if_neg h1] at h ⊢
    by_cases h2 : t_X8_isLetter (T (x_B T n s)) = true
    · rw [if_pos h2] at h; exact absurd h (by decide)
    · rw [if_neg h2] at h ⊢
      by_cases h3 : t_X8_isDigit (T (x_B T n s)) = true
      · rw [if_pos h3] at h; exact absurd h (by decide)
      · rw [if_neg h3]
        exact ⟨rfl, by omega⟩
theorem c_isS {S : ev_S} {a n s : Nat} {T : Nat → Int32} {c : Int32} (hn : n ≤ 800) (hs : s ≤ n) (h : m_tk S.1 a n T s) : t_X10_isSign S a c = p_sg T n s c := by
  obtain ⟨h1, hT, h7, h8, h4, h2, h3, h5⟩ := h
  have hb := x_B_le (T := T) hs
  unfold t_X10_isSign p_sg
  rw [if_pos h7, h2, h4, c_seen hn h1 hT hb.2]
  by_cases c1 : x_K T n s = 3
  · obtain ⟨k1, k2⟩ := x_K3 c1
    rw [if_pos c1, if_pos k2, ← k1]
    by_cases c2 : x_V T n s = c
    · rw [if_pos c2]; simp [c1, c2]
    · rw [if_neg c2]; simp [c2]
  · rw [if_neg c1]; simp [c1]
theorem c_isS_e {S : ev_S} {a : Nat} {c : Int32} (h : ¬ S.1 a 17 = 0) : t_X10_isSign S a c = false := by
  unfold t_X10_isSign
  rw [if_neg h]
theorem c_sign {g : ev_G} {S : ev_S} {a n s : Nat} {T : Nat → Int32} {c : Int32} (hn : n ≤ 800) (hm : ∀ j, j < n → ¬ T j = -1) (hs : s ≤ n) (h : m_tk S.1 a n T s) {Q : ev_O → ev_S → Prop}
    (q1 : ¬ p_sg T n s c = true → ∀ z, m_1 S z a → m_te z.1 a 1 (x_B T n s) → Q (.inl none) z)
    (q2 : p_sg T n s c = true → s ≤ x_E T n s → x_E T n s ≤ n → ∀ z, m_1 S z a → m_tk z.1 a n T (x_E T n s) → Q (.inl none) z) :
    ev_Cv g m_X10_takesSign 4 0 [ev_o 10 a, ev_i c] S Q := by
  have he := x_E_le (T := T) hs
  have hb := x_B_le (T := T) hs
  refine sg_X10_takesSign_0 a c ?_
  rw [c_isS hn hs h, h.1, h.2.2.2.2.1]
  refine ⟨fun _ _ => c_vsn hn hb.2, fun c1 => c_must_t h.2.2.1 ⟨true, rfl, c_pass hn hm hs h (fun z z1 z2 => ⟨rfl, q2 c1 he.1 he.2 z z1 z2⟩)⟩, fun c1 => c_must_f (by decide) h (fun z z1 z2 _ => ⟨false, rfl, c_pass_e (by rw [z2.1]; decide) ⟨rfl, q1 c1 z z1 z2⟩⟩)⟩
theorem c_sign_e {g : ev_G} {S : ev_S} {a : Nat} {c : Int32} (h : ¬ S.1 a 17 = 0) {Q : ev_O → ev_S → Prop} (hQ : Q (.inl none) S) : ev_Cv g m_X10_takesSign 4 0 [ev_o 10 a, ev_i c] S Q := by
  refine sg_X10_takesSign_0 a c ?_
  rw [c_isS_e h]
  exact ⟨fun hh => absurd hh h, fun c1 => absurd c1 (by decide), fun _ => c_must_e h ⟨false, rfl, c_pass_e h ⟨rfl, hQ⟩⟩⟩
theorem c_isW {g : ev_G} {S : ev_S} {a n s k : Nat} {T : Nat → Int32} (hn : n ≤ 800) (hs : s ≤ n) (hk : k < 38) (h : m_tk S.1 a n T s) : ev_Fn g m_X10_isWord 5 [ev_o 10 a, ev_x 1 k] S (some (ev_i (if x_w T n s k = true then 1 else 0))) S := by
  intro Q hQ
  obtain ⟨h1, hT, h7, h8, h4, h2, h3, h5⟩ := h
  obtain ⟨l1, l2, l3⟩ := lit_k hk
  have hb := x_B_le (T := T) hs
  have he := x_E_le (T := T) hs
  have hbe := (x_Eb_le (T := T) hb.2).1
  have hbe' : x_B T n s ≤ x_E T n s := hbe
  have y1 : x_w T n s k = true → Q (.inl (some (ev_i 1))) S := fun h => by rw [if_pos h] at hQ; exact hQ
  have y0 : ¬ x_w T n s k = true → Q (.inl (some (ev_i 0))) S := fun h => by rw [if_neg h] at hQ; exact hQ
  clear hQ
  refine sg_X10_isWord_0 a k (j_pos h7 ?_)
  rw [h2, h5, h4, n_sub _ _ hbe', j_sh0, n_eq (by omega) (by omega)]
  refine ⟨fun c1 => ⟨fun c2 => ?_, fun c2 => y0 (fun hh => c2 (x_w_1 hh).2)⟩, fun c1 => y0 (fun hh => c1 (x_w_1 hh).1)⟩
  have hval : x_w T n s k = x_wm T (x_B T n s) k (ev_le.getD k 0) := by
    unfold x_w
    rw [decide_eq_true ⟨c1, c2⟩, Bool.true_and]
  have key : ∀ m i : Nat, i + m = ev_le.getD k 0 → x_wm T (x_B T n s) k i = true → ev_E g m_X10_isWord 5 0 35 [some (ev_o 10 a), some (ev_x 1 k), some (ev_i (Int32.ofNat i))] [] S Q := by
    intro m
    induction m with
    | zero =>
      intro i hi hw
      have : i = ev_le.getD k 0 := by omega
      subst this
      exact sg_X10_isWord_35 a k _ (j_pos (by rw [j_sh0]; exact Int32.le_refl _) (y1 (by rw [hval]; exact hw)))
    | succ m ih =>
      intro i hi hw
      refine sg_X10_isWord_35 a k _ (j_neg (by rw [j_sh0, n_le (by omega) (by omega)]; omega) ?_)
      obtain ⟨b1, b2⟩ := lit_b hk (i := i) (by omega)
      rw [b1, h4, n_add, n_c (by omega), hT _ (by omega), n_inc]
      refine ⟨(n_vp (by omega) (by omega)).mpr trivial, fun hh => by rw [n_neg (by omega)] at hh; exact hh, fun _ hh => hh (by rw [n_lt (by omega) (by omega)]; omega), (n_vp (by omega) (by omega)).mpr trivial, by rw [← b1]; exact b2, fun he => ih (i + 1) (by omega) (x_wm_t hw he), fun he => y0 (by rw [hval]; exact x_wm_f he _ (by omega))⟩
  exact key (ev_le.getD k 0) 0 (by omega) rfl
theorem c_isW_e {g : ev_G} {S : ev_S} {a k : Nat} (h : ¬ S.1 a 17 = 0) : ev_Fn g m_X10_isWord 5 [ev_o 10 a, ev_x 1 k] S (some (ev_i (if false = true then 1 else 0))) S := by
  intro Q hQ
  exact sg_X10_isWord_0 a k (j_neg h hQ)
/-- the same words have two numbers -/
theorem x_w_eq {T : Nat → Int32} {n s k k' : Nat} (h1 : ev_le.getD k 0 = ev_le.getD k' 0) (h2 : ev_bt.getD k [] = ev_bt.getD k' []) : x_w T n s k = x_w T n s k' := by
  have e : ∀ b i, x_wm T b k i = x_wm T b k' i := by
    intro b i
    induction i with
    | zero => rfl
    | succ i ih =>
      rw [x_wm, x_wm, ih]
      unfold j_lb
      rw [h2]
  unfold x_w
  rw [h1, e]
