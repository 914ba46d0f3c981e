/-! ===== the reference: days, one after another ===== -/
/-! ===== the class: a copy of a game ===== -/
def cpd (S z : ev_S) (a b w : Nat) (P : Nat → Nat → Prop) : Prop := q_fr S z a w ∧ ∀ c k, c < w → P c k → z.1 (a + c) k = S.1 (b + c) k
theorem cp_0 (S : ev_S) (a b w : Nat) : cpd S S a b w (fun c _ => c < 0) := ⟨⟨rfl, fun q _ => rfl⟩, fun c k _ h => absurd h (Nat.not_lt_zero c)⟩
theorem cp_m {S z : ev_S} {a b w : Nat} {P P' : Nat → Nat → Prop} (h : cpd S z a b w P) (hp : ∀ c k, P' c k → P c k) : cpd S z a b w P' := ⟨h.1, fun c k hc hk => h.2 c k hc (hp c k hk)⟩
theorem cp_f {S z z' : ev_S} {a b w o o' c k : Nat} {P : Nat → Nat → Prop} (h : cpd S z a b w P) (hd : a + w ≤ b ∨ b + w ≤ a) (ho : o = a + c) (ho' : o' = b + c) (hc : c < w) (e : z' = ev_up z o k (z.1 o' k)) : cpd S z' a b w (fun c' k' => P c' k' ∨ (c' = c ∧ k' = k)) := by
  subst ho ho' e
  refine ⟨⟨h.1.1, fun q hq => by rw [m_r (by omega)]; exact h.1.2 q hq⟩, fun c' k' hc' hk => ?_⟩
  by_cases hcc : c' = c
  · by_cases hkk : k' = k
    · rw [hcc, hkk, m_s, h.1.2 _ (by omega)]
    · rw [hcc, m_k hkk]
      rcases hk with hk | hk
      · exact h.2 c k' hc (hcc ▸ hk)
      · exact absurd hk.2 hkk
  · rw [m_r (by omega)]
    rcases hk with hk | hk
    · exact h.2 c' k' hc' hk
    · exact absurd hk.1 hcc
theorem cp_a {S z z' : ev_S} {a b w o o' c n : Nat} {P : Nat → Nat → Prop} (h : cpd S z a b w P) (hd : a + w ≤ b ∨ b + w ≤ a) (ho : o = a + c) (ho' : o' = b + c) (hc : c < w) (e : z' = j_copy z n o' o) : cpd S z' a b w (fun c' k' => P c' k' ∨ (c' = c ∧ k' < n)) := by
  subst ho ho' e
  unfold j_copy
  refine ⟨⟨h.1.1, fun q hq => by rw [r_r (by omega)]; exact h.1.2 q hq⟩, fun c' k' hc' hk => ?_⟩
  by_cases hcc : c' = c
  · rw [hcc, r_s]
    show (if k' < n then z.1 (b + c) k' else z.1 (a + c) k') = _
    by_cases hkk : k' < n
    · rw [if_pos hkk, h.1.2 _ (by omega)]
    · rw [if_neg hkk]
      rcases hk with hk | hk
      · exact h.2 c k' hc (hcc ▸ hk)
      · exact absurd hk.2 hkk
  · rw [r_r (by omega)]
    rcases hk with hk | hk
    · exact h.2 c' k' hc' hk
    · exact absurd hk.1 hcc
theorem cp_o {S z z' : ev_S} {a b w o o' f w0 : Nat} {P P0 : Nat → Nat → Prop} (h : cpd S z a b w P) (hd : a + w ≤ b ∨ b + w ≤ a) (ho : o = a + f) (ho' : o' = b + f) (hf : f + w0 ≤ w) (e : cpd z z' o o' w0 P0) : cpd S z' a b w (fun c' k' => (P c' k' ∧ ¬ (f ≤ c' ∧ c' < f + w0)) ∨ (f ≤ c' ∧ c' < f + w0 ∧ P0 (c' - f) k')) := by
  subst ho ho'
  refine ⟨⟨e.1.1.trans h.1.1, fun q hq => by rw [e.1.2 q (by omega), h.1.2 q hq]⟩, fun c' k' hc' hk => ?_⟩
  rcases hk with ⟨hk, hn⟩ | ⟨h1, h2, hk⟩
  · rw [e.1.2 _ (by omega)]; exact h.2 c' k' hc' hk
  · have := e.2 (c' - f) k' (by omega) hk
    rw [show a + f + (c' - f) = a + c' by omega, show b + f + (c' - f) = b + c' by omega, h.1.2 _ (by omega)] at this
    exact this
def Pb (c k : Nat) : Prop := (c = 0 ∧ 4 ≤ k ∧ k ≤ 8) ∨ (c = 1 ∧ k < 64) ∨ (c = 2 ∧ k < 2) ∨ (c = 3 ∧ k < 61) ∨ (c = 4 ∧ k < 61)
def Pd (c k : Nat) : Prop := (c = 0 ∧ 5 ≤ k ∧ k ≤ 10) ∨ (1 ≤ c ∧ c < 6 ∧ Pb (c - 1) k) ∨ (6 ≤ c ∧ c < 9 ∧ k < 61)
def Pq (c k : Nat) : Prop := (c = 0 ∧ (k = 3 ∨ k = 4)) ∨ (c = 1 ∧ k < 4) ∨ (c = 2 ∧ k < 48) ∨ (c = 3 ∧ k < 8)
def Pp (c k : Nat) : Prop := (c = 0 ∧ (k = 13 ∨ k = 14 ∨ k = 16 ∨ k = 17)) ∨ (1 ≤ c ∧ c < 5 ∧ Pq (c - 1) k) ∨ (5 ≤ c ∧ c < 15 ∧ k < 84) ∨ (c = 16 ∧ k < 8)
def Pg (c k : Nat) : Prop := (c = 0 ∧ (k = 4 ∨ k = 5)) ∨ (1 ≤ c ∧ c < 10 ∧ Pd (c - 1) k) ∨ (10 ≤ c ∧ c < 19 ∧ Pd (c - 10) k) ∨ (19 ≤ c ∧ c < 36 ∧ Pp (c - 19) k)
theorem b_copy {g : ev_G} {S : ev_S} {a b : Nat} (hd : a + 5 ≤ b ∨ b + 5 ≤ a) {Q : ev_O → ev_S → Prop} (hQ : ∀ z, cpd S z a b 5 Pb → Q (.inl none) z) : ev_Cv g m_X0_copyFrom 2 0 [ev_o 0 a, ev_o 0 b] S Q := by
  refine sg_X0_copyFrom_0 a b ?_
  have c0 := cp_0 S a b 5
  intro z1 y1
  have c1 := cp_f (c := 0) (k := 4) c0 hd (by omega) (by omega) (by omega) y1
  intro z2 y2
  have c2 := cp_f (c := 0) (k := 5) c1 hd (by omega) (by omega) (by omega) y2
  intro z3 y3
  have c3 := cp_f (c := 0) (k := 6) c2 hd (by omega) (by omega) (by omega) y3
  intro z4 y4
  have c4 := cp_f (c := 0) (k := 7) c3 hd (by omega) (by omega) (by omega) y4
  intro z5 y5
  have c5 := cp_f (c := 0) (k := 8) c4 hd (by omega) (by omega) (by omega) y5
  intro z6 y6
  have c6 := cp_a (c := 1) (n := 64) c5 hd (by omega) (by omega) (by omega) y6
  intro z7 y7
  have c7 := cp_a (c := 2) (n := 2) c6 hd (by omega) (by omega) (by omega) y7
  intro z8 y8
  have c8 := cp_a (c := 3) (n := 61) c7 hd (by omega) (by omega) (by omega) y8
  intro z9 y9
  have c9 := cp_a (c := 4) (n := 61) c8 hd (by omega) (by omega) (by omega) y9
  refine hQ z9 (cp_m c9 (fun c k h => ?_))
  unfold Pb at h
  omega
theorem d_copy {g : ev_G} {S : ev_S} {a b : Nat} (hd : a + 9 ≤ b ∨ b + 9 ≤ a) {Q : ev_O → ev_S → Prop} (hQ : ∀ z, cpd S z a b 9 Pd → z.1 a 0 = S.1 a 0 → Q (.inl none) z) : ev_Cv g m_X1_copyFrom 3 0 [ev_o 1 a, ev_o 1 b] S Q := by
  refine sg_X1_copyFrom_0 a b ?_
  have c0 := cp_0 S a b 9
  refine b_copy (by omega) (fun z1 y1 => ⟨rfl, ?_⟩)
  have c1 := cp_o (f := 1) c0 hd (by omega) (by omega) (by omega) y1
  intro z2 y2
  have c2 := cp_a (c := 6) (n := 61) c1 hd (by omega) (by omega) (by omega) y2
  intro z3 y3
  have c3 := cp_a (c := 7) (n := 61) c2 hd (by omega) (by omega) (by omega) y3
  intro z4 y4
  have c4 := cp_a (c := 8) (n := 61) c3 hd (by omega) (by omega) (by omega) y4
  intro z5 y5
  have c5 := cp_f (c := 0) (k := 5) c4 hd (by omega) (by omega) (by omega) y5
  intro z6 y6
  have c6 := cp_f (c := 0) (k := 6) c5 hd (by omega) (by omega) (by omega) y6
  intro z7 y7
  have c7 := cp_f (c := 0) (k := 7) c6 hd (by omega) (by omega) (by omega) y7
  intro z8 y8
  have c8 := cp_f (c := 0) (k := 8) c7 hd (by omega) (by omega) (by omega) y8
  intro z9 y9
  have c9 := cp_f (c := 0) (k := 9) c8 hd (by omega) (by omega) (by omega) y9
  intro z10 y10
  have c10 := cp_f (c := 0) (k := 10) c9 hd (by omega) (by omega) (by omega) y10
  refine hQ z10 (cp_m c10 (fun c k h => ?_)) (by rw [y10, m_k (by omega), y9, m_k (by omega), y8, m_k (by omega), y7, m_k (by omega), y6, m_k (by omega), y5, m_k (by omega), y4, j_copy, r_r (by omega), y3, j_copy, r_r (by omega), y2, j_copy, r_r (by omega), y1.1.2 a (by omega)])
  unfold Pd at h
  rcases h with ⟨h1, h2, h3⟩ | ⟨h1, h2, h3⟩ | ⟨h1, h2, h3⟩
  · subst h1
    have hk : k = 5 ∨ k = 6 ∨ k = 7 ∨ k = 8 ∨ k = 9 ∨ k = 10 := by omega
    clear h2 h3
    rcases hk with hk | hk | hk | hk | hk | hk
    · exact Or.inl (Or.inl (Or.inl (Or.inl (Or.inl (Or.inr ⟨rfl, hk⟩)))))
    · exact Or.inl (Or.inl (Or.inl (Or.inl (Or.inr ⟨rfl, hk⟩))))
    · exact Or.inl (Or.inl (Or.inl (Or.inr ⟨rfl, hk⟩)))
    · exact Or.inl (Or.inl (Or.inr ⟨rfl, hk⟩))
    · exact Or.inl (Or.inr ⟨rfl, hk⟩)
    · exact Or.inr ⟨rfl, hk⟩
  · exact Or.inl (Or.inl (Or.inl (Or.inl (Or.inl (Or.inl (Or.inl (Or.inl (Or.inl (Or.inr ⟨h1, by omega, h3⟩)))))))))
  · have hc : c = 6 ∨ c = 7 ∨ c = 8 := by omega
    rcases hc with hc | hc | hc
    · exact Or.inl (Or.inl (Or.inl (Or.inl (Or.inl (Or.inl (Or.inl (Or.inl (Or.inr ⟨hc, h3⟩))))))))
    · exact Or.inl (Or.inl (Or.inl (Or.inl (Or.inl (Or.inl (Or.inl (Or.inr ⟨hc, h3⟩)))))))
    · exact Or.inl (Or.inl (Or.inl (Or.inl (Or.inl (Or.inl (Or.inr ⟨hc, h3⟩))))))
theorem y_copy {g : ev_G} {S : ev_S} {a b : Nat} (hd : a + 4 ≤ b ∨ b + 4 ≤ a) {Q : ev_O → ev_S → Prop} (hQ : ∀ z, cpd S z a b 4 Pq → Q (.inl none) z) : ev_Cv g m_X5_copyFrom 2 0 [ev_o 5 a, ev_o 5 b] S Q := by
  refine sg_X5_copyFrom_0 a b ?_
  have c0 := cp_0 S a b 4
  intro z1 y1
  have c1 := cp_a (c := 1) (n := 4) c0 hd (by omega) (by omega) (by omega) y1
  intro z2 y2
  have c2 := cp_a (c := 2) (n := 48) c1 hd (by omega) (by omega) (by omega) y2
  intro z3 y3
  have c3 := cp_a (c := 3) (n := 8) c2 hd (by omega) (by omega) (by omega) y3
  intro z4 y4
  have c4 := cp_f (c := 0) (k := 3) c3 hd (by omega) (by omega) (by omega) y4
  intro z5 y5
  have c5 := cp_f (c := 0) (k := 4) c4 hd (by omega) (by omega) (by omega) y5
  refine hQ z5 (cp_m c5 (fun c k h => ?_))
  unfold Pq at h
  omega
theorem p_copy {g : ev_G} {S : ev_S} {a b : Nat} (hd : a + 17 ≤ b ∨ b + 17 ≤ a) {Q : ev_O → ev_S → Prop} (hQ : ∀ z, cpd S z a b 17 Pp → Q (.inl none) z) : ev_Cv g m_X6_copyFrom 3 0 [ev_o 6 a, ev_o 6 b] S Q := by
  refine sg_X6_copyFrom_0 a b ?_
  have c0 := cp_0 S a b 17
  refine y_copy (by omega) (fun z1 y1 => ⟨rfl, ?_⟩)
  have c1 := cp_o (f := 1) c0 hd (by omega) (by omega) (by omega) y1
  intro z2 y2
  have c2 := cp_a (c := 5) (n := 84) c1 hd (by omega) (by omega) (by omega) y2
  intro z3 y3
  have c3 := cp_a (c := 6) (n := 84) c2 hd (by omega) (by omega) (by omega) y3
  intro z4 y4
  have c4 := cp_a (c := 7) (n := 84) c3 hd (by omega) (by omega) (by omega) y4
  intro z5 y5
  have c5 := cp_a (c := 8) (n := 84) c4 hd (by omega) (by omega) (by omega) y5
  intro z6 y6
  have c6 := cp_a (c := 9) (n := 84) c5 hd (by omega) (by omega) (by omega) y6
  intro z7 y7
  have c7 := cp_a (c := 10) (n := 84) c6 hd (by omega) (by omega) (by omega) y7
  intro z8 y8
  have c8 := cp_a (c := 11) (n := 84) c7 hd (by omega) (by omega) (by omega) y8
  intro z9 y9
  have c9 := cp_a (c := 12) (n := 84) c8 hd (by omega) (by omega) (by omega) y9
  intro z10 y10
  have c10 := cp_a (c := 13) (n := 84) c9 hd (by omega) (by omega) (by omega) y10
  intro z11 y11
  have c11 := cp_a (c := 14) (n := 84) c10 hd (by omega) (by omega) (by omega) y11
  intro z12 y12
  have c12 := cp_a (c := 16) (n := 8) c11 hd (by omega) (by omega) (by omega) y12
  intro z13 y13
  have c13 := cp_f (c := 0) (k := 13) c12 hd (by omega) (by omega) (by omega) y13
  intro z14 y14
  have c14 := cp_f (c := 0) (k := 14) c13 hd (by omega) (by omega) (by omega) y14
  intro z15 y15
  have c15 := cp_f (c := 0) (k := 16) c14 hd (by omega) (by omega) (by omega) y15
  intro z16 y16
  have c16 := cp_f (c := 0) (k := 17) c15 hd (by omega) (by omega) (by omega) y16
  refine hQ z16 (cp_m c16 (fun c k h => ?_))
  unfold Pp at h
  rcases h with ⟨h1, h2 | h2 | h2 | h2⟩ | ⟨h1, h2, h3⟩ | ⟨h1, h2, h3⟩ | ⟨h1, h2⟩
  · exact Or.inl (Or.inl (Or.inl (Or.inr ⟨h1, h2⟩)))
  · exact Or.inl (Or.inl (Or.inr ⟨h1, h2⟩))
  · exact Or.inl (Or.inr ⟨h1, h2⟩)
  · exact Or.inr ⟨h1, h2⟩
  · exact Or.inl (Or.inl (Or.inl (Or.inl (Or.inl (Or.inl (Or.inl (Or.inl (Or.inl (Or.inl (Or.inl (Or.inl (Or.inl (Or.inl (Or.inl (Or.inr ⟨h1, by omega, h3⟩)))))))))))))))
  · have hc : c = 5 ∨ c = 6 ∨ c = 7 ∨ c = 8 ∨ c = 9 ∨ c = 10 ∨ c = 11 ∨ c = 12 ∨ c = 13 ∨ c = 14 := by omega
    rcases hc with hc | hc | hc | hc | hc | hc | hc | hc | hc | hc
    · exact Or.inl (Or.inl (Or.inl (Or.inl (Or.inl (Or.inl (Or.inl (Or.inl (Or.inl (Or.inl (Or.inl (Or.inl (Or.inl (Or.inl (Or.inr ⟨hc, h3⟩))))))))))))))
    · exact Or.inl (Or.inl (Or.inl (Or.inl (Or.inl (Or.inl (Or.inl (Or.inl (Or.inl (Or.inl (Or.inl (Or.inl (Or.inl (Or.inr ⟨hc, h3⟩)))))))))))))
    · exact Or.inl (Or.inl (Or.inl (Or.inl (Or.inl (Or.inl (Or.inl (Or.inl (Or.inl (Or.inl (Or.inl (Or.inl (Or.inr ⟨hc, h3⟩))))))))))))
    · exact Or.inl (Or.inl (Or.inl (Or.inl (Or.inl (Or.inl (Or.inl (Or.inl (Or.inl (Or.inl (Or.inl (Or.inr ⟨hc, h3⟩)))))))))))
    · exact Or.inl (Or.inl (Or.inl (Or.inl (Or.inl (Or.inl (Or.inl (Or.inl (Or.inl (Or.inl (Or.inr ⟨hc, h3⟩))))))))))
    · exact Or.inl (Or.inl (Or.inl (Or.inl (Or.inl (Or.inl (Or.inl (Or.inl (Or.inl (Or.inr ⟨hc, h3⟩)))))))))
    · exact Or.inl (Or.inl (Or.inl (Or.inl (Or.inl (Or.inl (Or.inl (Or.inl (Or.inr ⟨hc, h3⟩))))))))
    · exact Or.inl (Or.inl (Or.inl (Or.inl (Or.inl (Or.inl (Or.inl (Or.inr ⟨hc, h3⟩)))))))
    · exact Or.inl (Or.inl (Or.inl (Or.inl (Or.inl (Or.inl (Or.inr ⟨hc, h3⟩))))))
    · exact Or.inl (Or.inl (Or.inl (Or.inl (Or.inl (Or.inr ⟨hc, h3⟩)))))
  · exact Or.inl (Or.inl (Or.inl (Or.inl (Or.inr ⟨h1, h2⟩))))
theorem g_copy {g : ev_G} {S : ev_S} {a b : Nat} (hd : a + 36 ≤ b ∨ b + 36 ≤ a) {Q : ev_O → ev_S → Prop} (hQ : ∀ z, cpd S z a b 36 Pg → z.1 (a + 1) 0 = S.1 (a + 1) 0 → z.1 (a + 10) 0 = S.1 (a + 10) 0 → Q (.inl none) z) : ev_Cv g m_X2_copyFrom 4 0 [ev_o 2 a, ev_o 2 b] S Q := by
  refine sg_X2_copyFrom_0 a b ?_
  have c0 := cp_0 S a b 36
  refine d_copy (by omega) (fun z1 y1 x1 => ⟨rfl, ?_⟩)
  have c1 := cp_o (f := 1) c0 hd (by omega) (by omega) (by omega) y1
  refine d_copy (by omega) (fun z2 y2 x2 => ⟨rfl, ?_⟩)
  have c2 := cp_o (f := 10) c1 hd (by omega) (by omega) (by omega) y2
  refine p_copy (by omega) (fun z3 y3 => ⟨rfl, ?_⟩)
  have c3 := cp_o (f := 19) c2 hd (by omega) (by omega) (by omega) y3
  intro z4 y4
  have c4 := cp_f (c := 0) (k := 4) c3 hd (by omega) (by omega) (by omega) y4
  intro z5 y5
  have c5 := cp_f (c := 0) (k := 5) c4 hd (by omega) (by omega) (by omega) y5
  refine hQ z5 (cp_m c5 (fun c k h => ?_)) (by rw [y5, m_r (by omega), y4, m_r (by omega), y3.1.2 _ (by omega), y2.1.2 _ (by omega), x1]) (by rw [y5, m_r (by omega), y4, m_r (by omega), y3.1.2 _ (by omega), x2, y1.1.2 _ (by omega)])
  unfold Pg at h
  rcases h with ⟨h1, h2 | h2⟩ | ⟨h1, h2, h3⟩ | ⟨h1, h2, h3⟩ | ⟨h1, h2, h3⟩
  · exact Or.inl (Or.inr ⟨h1, h2⟩)
  · exact Or.inr ⟨h1, h2⟩
  · exact Or.inl (Or.inl (Or.inl ⟨Or.inl ⟨Or.inr ⟨h1, by omega, h3⟩, by omega⟩, by omega⟩))
  · exact Or.inl (Or.inl (Or.inl ⟨Or.inr ⟨h1, by omega, h3⟩, by omega⟩))
  · exact Or.inl (Or.inl (Or.inr ⟨h1, by omega, h3⟩))
