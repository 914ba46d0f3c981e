/-! ===== a script: the reference reads it ===== -/
def at_rz : (l : Nat) → AT l → Nat
  | 0 => fun _ => 1
  | l + 1 => fun x => match (x : A0 ⊕ (Nat × List (AT l))) with
    | .inl _ => 1
    | .inr q => 1 + ls_sz (at_rz l) q.2
def r_cmd (K N : Nat → Int32) (off : Nat) (c : A0) : Prop := K off = Int32.ofNat c.1 ∧ c.1 ≤ 5 ∧ c.2.length ≤ 6 ∧ ∀ w x, c.2[w]? = some x → N (6 * off + w) = x
def r_code (K N : Nat → Int32) : (l : Nat) → Nat → AT l → Prop
  | 0 => fun off c => r_cmd K N off c
  | l + 1 => fun off x => match (x : A0 ⊕ (Nat × List (AT l))) with
    | .inl c => r_cmd K N off c
    | .inr q => K off = 6 ∧ N (6 * off) = Int32.ofNat q.1 ∧ q.1 ≤ 20 ∧ N (6 * off + 1) = Int32.ofNat (off + 1 + ls_sz (at_rz l) q.2) ∧ q_cds (at_rz l) (r_code K N l) (off + 1) q.2
theorem r_cmd_fr {K N K' N' : Nat → Int32} {off : Nat} {c : A0} (h1 : K' off = K off) (h2 : ∀ j, 6 * off ≤ j → j < 6 * (off + 1) → N' j = N j) (h : r_cmd K N off c) : r_cmd K' N' off c := by
  obtain ⟨a1, a2, a3, a4⟩ := h
  refine ⟨h1.trans a1, a2, a3, fun w x hw => ?_⟩
  have hl : w < c.2.length := by
    by_cases hh : w < c.2.length
    · exact hh
    · rw [List.getElem?_eq_none (by omega)] at hw
      exact absurd hw (by simp)
  rw [h2 _ (by omega) (by omega)]
  exact a4 w x hw
theorem r_code_fr {K N K' N' : Nat → Int32} : ∀ (l off : Nat) (x : AT l), (∀ j, off ≤ j → j < off + at_rz l x → K' j = K j) → (∀ j, 6 * off ≤ j → j < 6 * (off + at_rz l x) → N' j = N j) → r_code K N l off x → r_code K' N' l off x := by
  intro l
  induction l with
  | zero =>
    intro off x h1 h2 h
    have e : at_rz 0 x = 1 := rfl
    rw [e] at h1 h2
    exact r_cmd_fr (h1 off (Nat.le_refl _) (by omega)) h2 h
  | succ l ih =>
    intro off x h1 h2 h
    match (x : A0 ⊕ (Nat × List (AT l))) with
    | .inl c =>
      have e : at_rz (l + 1) (Sum.inl c : A0 ⊕ (Nat × List (AT l))) = 1 := rfl
      rw [e] at h1 h2
      exact r_cmd_fr (h1 off (Nat.le_refl _) (by omega)) h2 h
    | .inr q =>
      have e : at_rz (l + 1) (Sum.inr q : A0 ⊕ (Nat × List (AT l))) = 1 + ls_sz (at_rz l) q.2 := rfl
      rw [e] at h1 h2
      obtain ⟨a1, a2, a3, a4, a5⟩ := h
      refine ⟨(h1 off (by omega) (by omega)).trans a1, (h2 _ (by omega) (by omega)).trans a2, a3, (h2 _ (by omega) (by omega)).trans a4, ?_⟩
      exact q_cds_imp q.2 (off + 1) (fun off' y k1 k2 => ih off' y (fun j j1 j2 => h1 j (by omega) (by omega)) (fun j j1 j2 => h2 j (by omega) (by omega))) a5
def m_sr (S z : ev_S) (a : Nat) : Prop := z.2 = S.2 ∧ (∀ q, q ≠ a → q ≠ a + 8 → q ≠ a + 9 → z.1 q = S.1 q) ∧ ∀ i, (i < 13 ∨ 18 < i) → i ≠ 21 → z.1 a i = S.1 a i
theorem m_sr_refl (S : ev_S) (a : Nat) : m_sr S S a := ⟨rfl, fun _ _ _ _ => rfl, fun _ _ _ => rfl⟩
theorem m_sr_1 {S z y : ev_S} {a : Nat} (h : m_sr S z a) (h2 : m_1 z y a) : m_sr S y a := ⟨h2.1.trans h.1, fun q h0 h8 h9 => (h2.2.1 q h0).trans (h.2.1 q h0 h8 h9), fun i hi h21 => (h2.2.2 i hi).trans (h.2.2 i hi h21)⟩
theorem m_sr_8 {S z : ev_S} {a k : Nat} {v : Int32} (h : m_sr S z a) : m_sr S (ev_up z (a + 8) k v) a := ⟨h.1, fun q h0 h8 h9 => by rw [m_r h8]; exact h.2.1 q h0 h8 h9, fun i hi h21 => by rw [m_r (by omega)]; exact h.2.2 i hi h21⟩
theorem m_sr_9 {S z : ev_S} {a k : Nat} {v : Int32} (h : m_sr S z a) : m_sr S (ev_up z (a + 9) k v) a := ⟨h.1, fun q h0 h8 h9 => by rw [m_r h9]; exact h.2.1 q h0 h8 h9, fun i hi h21 => by rw [m_r (by omega)]; exact h.2.2 i hi h21⟩
theorem m_sr_21 {S z : ev_S} {a : Nat} {v : Int32} (h : m_sr S z a) : m_sr S (ev_up z a 21 v) a := ⟨h.1, fun q h0 h8 h9 => by rw [m_r h0]; exact h.2.1 q h0 h8 h9, fun i hi h21 => by rw [m_k h21]; exact h.2.2 i hi h21⟩
def m_er (S z : ev_S) (a : Nat) (c : Int32) (p : Nat) : Prop := m_sr S z a ∧ m_te z.1 a c p
theorem m_er_7 {S z : ev_S} {a p : Nat} {c : Int32} (h : m_er S z a c p) : ¬ z.1 a 17 = 0 := by rw [h.2.1]; exact h.2.2.1
/-- numbers kept in turn -/
def KC (g : ev_G) (a its : Nat) : List (Int32 × Int32) → Nat → ev_S → (ev_S → Prop) → Prop
  | [], _, S, P => P S
  | q :: R, k, S, P => ev_Cv g m_X10_keepsNumber 5 0 [ev_o 10 a, ev_i (Int32.ofNat its), ev_i (Int32.ofNat k), ev_i q.1, ev_i q.2] S (fun o S1 => o = .inl none ∧ KC g a its R (k + 1) S1 P)
theorem kn_ix {its k : Nat} : (6 : Int32) * Int32.ofNat its + Int32.ofNat k = Int32.ofNat (6 * its + k) := by rw [lm_6, n_add]
theorem KC_e {g : ev_G} {S0 : ev_S} {a its p : Nat} {c : Int32} (hi : its < 30) {P : ev_S → Prop} (hP : ∀ y, m_er S0 y a c p → P y) : ∀ (R : List (Int32 × Int32)) (k : Nat) (z : ev_S), k + R.length ≤ 6 → m_er S0 z a c p → KC g a its R k z P := by
  intro R
  induction R with
  | nil => intro k z _ hz; exact hP z hz
  | cons q R ih =>
    intro k z hk hz
    simp only [List.length_cons] at hk
    refine sg_X10_keepsNumber_0 a _ _ _ _ (c_num_e (m_er_7 hz) ⟨_, rfl, ?_⟩)
    rw [kn_ix, n_c (by omega)]
    refine ⟨(n_vp (by omega) (by omega)).mpr trivial, fun S2 e2 => ⟨rfl, ih (k + 1) S2 (by omega) ?_⟩⟩
    rw [e2]
    refine ⟨m_sr_9 hz.1, ?_⟩
    unfold m_te
    rw [m_r (by omega)]
    exact hz.2
theorem KC_ok {g : ev_G} {S0 : ev_S} {a n its : Nat} {T : Nat → Int32} (hn : n ≤ 800) (hm : ∀ j, j < n → ¬ T j = -1) (hi : its < 30) {P : ev_S → Prop} : ∀ (R : List (Int32 × Int32)) (k s : Nat) (z : ev_S), k + R.length ≤ 6 → s ≤ n → m_tk z.1 a n T s → m_sr S0 z a →
    (∀ c p, p_args T n R s = .inl (c, p) → ∀ y, m_er S0 y a c p → P y) →
    (∀ L s', p_args T n R s = .inr (L, s') → s ≤ s' → s' ≤ n → ∀ y, m_tk y.1 a n T s' → m_sr S0 y a → (∀ q, q ≠ a → q ≠ a + 9 → y.1 q = z.1 q) → y.1 a 21 = z.1 a 21 → (∀ j, (j < 6 * its + k ∨ 6 * its + k + R.length ≤ j) → y.1 (a + 9) j = z.1 (a + 9) j) → (∀ w x, L[w]? = some x → y.1 (a + 9) (6 * its + k + w) = x) → P y) →
    KC g a its R k z P := by
  intro R
  induction R with
  | nil =>
    intro k s z _ hs h hr _ q2
    exact q2 [] s rfl (Nat.le_refl _) hs z h hr (fun _ _ _ => rfl) rfl (fun _ _ => rfl) (fun w x hx => by simp at hx)
  | cons q R ih =>
    intro k s z hk hs h hr q1 q2
    simp only [List.length_cons] at hk
    rw [p_args] at q1 q2
    refine sg_X10_keepsNumber_0 a _ _ _ _ (c_num hn hm hs h (fun c p hp v y y1 y2 => ⟨_, rfl, ?_⟩) (fun v s1 hp l1 l2 l3 l4 y y1 y2 => ⟨_, rfl, ?_⟩))
    · rw [hp] at q1
      rw [kn_ix, n_c (by omega)]
      refine ⟨(n_vp (by omega) (by omega)).mpr trivial, fun S2 e2 => ⟨rfl, KC_e (S0 := S0) hi (q1 c p rfl) R (k + 1) S2 (by omega) ?_⟩⟩
      rw [e2]
      refine ⟨m_sr_9 (m_sr_1 hr y1), ?_⟩
      unfold m_te
      rw [m_r (by omega)]
      exact y2
    · rw [hp] at q1 q2
      simp only [p_bd] at q1 q2
      rw [kn_ix, n_c (by omega)]
      refine ⟨(n_vp (by omega) (by omega)).mpr trivial, fun S2 e2 => ⟨rfl, ?_⟩⟩
      have f9 : ∀ j, j ≠ 6 * its + k → S2.1 (a + 9) j = z.1 (a + 9) j := fun j hj => by rw [e2, m_k hj, y1.2.1 _ (by omega)]
      have fv : S2.1 (a + 9) (6 * its + k) = v := by rw [e2, m_s]
      have fq : ∀ q, q ≠ a → q ≠ a + 9 → S2.1 q = z.1 q := fun q h0 h9 => by rw [e2, m_r h9]; exact y1.2.1 q h0
      refine ih (k + 1) s1 S2 (by omega) l4 (m_tk_frame y2 (by rw [e2, m_r (by omega)]) (by rw [e2, m_r (by omega)])) (by rw [e2]; exact m_sr_9 (m_sr_1 hr y1)) (fun c p hp2 => ?_) (fun L s' hp2 k1 k2 x x1 x2 x3 x4 x5 x6 => ?_)
      · rw [hp2] at q1
        exact q1 c p rfl
      · rw [hp2] at q2
        refine q2 _ _ rfl (by omega) k2 x x1 x2 (fun q h0 h9 => by rw [x3 q h0 h9, fq q h0 h9]) (by rw [x4, e2, m_r (by omega), y1.2.2 _ (by omega)]) (fun j hj => ?_) (fun w y hw => ?_)
        · simp only [List.length_cons] at hj
          rw [x5 j (by omega), f9 j (by omega)]
        · cases w with
          | zero =>
            simp at hw
            have e0 : 6 * its + k + 0 = 6 * its + k := rfl
            rw [e0, x5 _ (by omega), fv]
            exact hw
          | succ w =>
            simp at hw
            have := x6 w y hw
            rw [show 6 * its + k + (w + 1) = 6 * its + (k + 1) + w by omega]
            exact this
theorem KC_hd {g : ev_G} {a its k : Nat} {q : Int32 × Int32} {R : List (Int32 × Int32)} {S : ev_S} {P Q' : ev_S → Prop} (h : KC g a its (q :: R) k S P) (hq : ∀ S1, KC g a its R (k + 1) S1 P → Q' S1) : ev_Cv g m_X10_keepsNumber 5 0 [ev_o 10 a, ev_i (Int32.ofNat its), ev_i (Int32.ofNat k), ev_i q.1, ev_i q.2] S (fun o S1 => o = .inl none ∧ Q' S1) :=
  ev_Cv.mono (Q := fun o S1 => o = .inl none ∧ KC g a its R (k + 1) S1 P) (fun o S1 h1 => ⟨h1.1, hq S1 h1.2⟩) h
theorem c_single {g : ev_G} {z : ev_S} {a its k : Nat} {Q : ev_O → ev_S → Prop} (hi : its < 30) (hk : k ≤ 5) (hK : z.1 (a + 8) its = Int32.ofNat k) (h : KC g a its (p_rg k) 0 z (fun S => Q (.inl none) S)) : ev_Cv g m_X10_readsSingle 6 0 [ev_o 10 a, ev_i (Int32.ofNat its)] z Q := by
  have l95 : ∀ z, KC g a its [(0, 63), (0, 63), (0, 63), (0, 63)] 2 z (fun S => Q (.inl none) S) → ev_E g m_X10_readsSingle 6 0 95 [some (ev_o 10 a), some (ev_i (Int32.ofNat its)), some (ev_i 2)] [] z Q := by
    intro z h
    refine sg_X10_readsSingle_95 a _ _ (j_neg (by decide) (KC_hd h (fun S h => ?_)))
    refine sg_X10_readsSingle_95 a _ _ (j_neg (by decide) (KC_hd h (fun S h => ?_)))
    refine sg_X10_readsSingle_95 a _ _ (j_neg (by decide) (KC_hd h (fun S h => ?_)))
    refine sg_X10_readsSingle_95 a _ _ (j_neg (by decide) (KC_hd h (fun S h => ?_)))
    exact sg_X10_readsSingle_95 a _ _ (j_pos (by decide) h)
  refine sg_X10_readsSingle_0 a _ ?_
  rw [n_c (by omega), hK]
  refine ⟨(n_vp (by omega) (by omega)).mpr trivial, ?_⟩
  have : k = 0 ∨ k = 1 ∨ k = 2 ∨ k = 3 ∨ k = 4 ∨ k = 5 := by omega
  rcases this with rfl | rfl | rfl | rfl | rfl | rfl
  · exact j_pos rfl h
  · refine j_neg (by decide) (j_pos rfl ?_)
    exact KC_hd h (fun S h => KC_hd h (fun S h => l95 S h))
  · exact j_neg (by decide) (j_neg (by decide) (j_pos rfl h))
  · exact j_neg (by decide) (j_neg (by decide) (j_neg (by decide) (j_pos rfl h)))
  · exact j_neg (by decide) (j_neg (by decide) (j_neg (by decide) (j_neg (by decide) (j_pos rfl h))))
  · exact j_neg (by decide) (j_neg (by decide) (j_neg (by decide) (j_neg (by decide) (j_neg (by decide) h))))
