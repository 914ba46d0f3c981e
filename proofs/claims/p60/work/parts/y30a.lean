/-! ===== the law begins: the walk ===== -/
theorem lw_dis : ∀ (l : List (Nat × Nat)), l.Pairwise (fun x y => y.2 + (ev_tk y.1).length ≤ x.2 ∨ x.2 + (ev_tk x.1).length ≤ y.2) → ∀ x, x ∈ l → ∀ y, y ∈ l → x ≠ y → x.2 + (ev_tk x.1).length ≤ y.2 ∨ y.2 + (ev_tk y.1).length ≤ x.2 := by
  intro l
  induction l with
  | nil => intro _ x hx; cases hx
  | cons z l ih =>
    intro h x hx y hy hne
    obtain ⟨h1, h2⟩ := List.pairwise_cons.mp h
    rcases List.mem_cons.mp hx with e1 | m1
    · rcases List.mem_cons.mp hy with e2 | m2
      · exact absurd (e1.trans e2.symm) hne
      · rw [e1]
        exact (h1 y m2).symm
    · rcases List.mem_cons.mp hy with e2 | m2
      · rw [e2]
        exact h1 x m1
      · exact ih h2 x m1 y m2 hne
theorem bg_kd : ∀ x, x < 505 → (ev_kd x).1 ≠ 12 ∧ (ev_kd x).1 ≠ 23 := by decide +kernel
theorem bg_k0 : ∀ x, x < 36 → (ev_tk 0)[x]? = some ((ev_tk 0).getD x (99, 0)) ∧ ((ev_tk 0).getD x (99, 0)).1 ≠ 12 ∧ ((ev_tk 0).getD x (99, 0)).1 ≠ 23 := by decide +kernel
theorem sb_fr_cls {g : ev_G} {S z : ev_S} {x : Nat} (f : sb_fr g S z) (hx : x < 505) : z.1 (ev_b g + x) = S.1 (ev_b g + x) := (f.2.2 (ev_b g + x) (ev_kd x) (ev_mem_al.mpr (Or.inl ⟨x, hx, rfl⟩)) (bg_kd x hx).1 (bg_kd x hx).2).1
theorem sb_fr_own {g : ev_G} {S z : ev_S} {a x : Nat} (f : sb_fr g S z) (ha : (0, a) ∈ S.2.1) (hx : x < 36) : z.1 (a + x) = S.1 (a + x) := (f.2.2 (a + x) _ (ev_tree (g := g) (t := 0) (o := x) ha (bg_k0 x hx).1) (bg_k0 x hx).2.1 (bg_k0 x hx).2.2).1
/-- as the law begins: the class is as at S0, the own game at a as at T, the builder at w holds t -/
def BG (g : ev_G) (S0 T S : ev_S) (a w : Nat) (t : List Nat) : Prop := (S0.2.1 <:+ S.2.1 ∧ ev_lw g S.2.1 ∧ (0, a) ∈ S.2.1) ∧ (∀ x, x < 505 → S.1 (ev_b g + x) = S0.1 (ev_b g + x)) ∧ (∀ x, x < 36 → S.1 (a + x) = T.1 (a + x)) ∧ sb_is S w t
theorem BG_sb {g : ev_G} {S0 T S z : ev_S} {a w : Nat} {t t' : List Nat} (h : BG g S0 T S a w t) (f : sb_fr g S z) (h2 : sb_is z w t') : BG g S0 T z a w t' := by
  obtain ⟨⟨h1, hw, ha⟩, hc, ho, hs⟩ := h
  exact ⟨⟨h1.trans f.1, f.2.1, f.1.subset ha⟩, fun x hx => (sb_fr_cls f hx).trans (hc x hx), fun x hx => (sb_fr_own f ha hx).trans (ho x hx), h2⟩
theorem BG_own {g : ev_G} {S0 T S z : ev_S} {a w : Nat} {t : List Nat} (h : BG g S0 T S a w t) (e : z.2 = S.2) (f : ∀ c, (c < a ∨ a + 36 ≤ c) → z.1 c = S.1 c) : BG g S0 z z a w t := by
  obtain ⟨⟨h1, hw, ha⟩, hc, ho, m, v, s1, s2, s3, s4, s5, s6, s7, s8, s9⟩ := h
  have hab := hw.1 (0, a) ha
  simp only at hab
  have l0 : (ev_tk 0).length = 36 := rfl
  have l4 : (ev_tk 4).length = 1 := rfl
  have lm : (ev_tk (10 + m)).length = 1 := by rw [ev_tk_big (by omega)]; rfl
  have d1 := lw_dis _ hw.2 (0, a) ha (4, w) s1 (by intro h9; have := congrArg Prod.fst h9; simp at this)
  have d2 := lw_dis _ hw.2 (0, a) ha (10 + m, v) s3 (by intro h9; have h8 := congrArg Prod.fst h9; simp only at h8; omega)
  simp only [l0, l4, lm] at d1 d2
  have f1 : z.1 w = S.1 w := f w (by omega)
  have f2 : z.1 v = S.1 v := f v (by omega)
  exact ⟨by rw [e]; exact ⟨h1, hw, ha⟩, fun x hx => (f _ (by omega)).trans (hc x hx), fun _ _ => rfl, m, v, by rw [e]; exact s1, by rw [e]; exact s2, by rw [e]; exact s3, by rw [f1]; exact s4, by rw [f1]; exact s5, s6, s7, by rw [f2]; exact s8, fun j hj => by rw [f2]; exact s9 j hj⟩
section Bg
variable {g : ev_G} {S0 T S : ev_S} {a w : Nat} {t : List Nat} {P : Nat → ev_S → Prop}
theorem bg_S {k : Nat} (h : BG g S0 T S a w t) (g1 : 10 ≤ k) (g2 : k < 14) (hl : t.length + (jb_lit k).length ≤ 300) (hQ : ∀ z, BG g S0 T z a w (t ++ jb_lit k) → P w z) : ev_Cv g m_J4_append_15ec4 5 101 [ev_o 12 w, ev_x 1 k] S (fun o z => ∃ v : Nat, o = .inl (some (ev_o 12 v)) ∧ P v z) :=
  ev_Cv.mono (fun o z hz => ⟨w, hz.1, hQ z (BG_sb h hz.2.1 hz.2.2)⟩) (c_appS h.2.2.2 g1 g2 hl)
theorem bg_I {x : Nat} {e : Int32} (h : BG g S0 T S a w t) (he : e = Int32.ofNat x) (hx : x < 100) (hl : t.length + (jb_dec x).length ≤ 300) (hQ : ∀ z, BG g S0 T z a w (t ++ jb_dec x) → P w z) : ev_Cv g m_J4_append_bf812 5 101 [ev_o 12 w, ev_i e] S (fun o z => ∃ v : Nat, o = .inl (some (ev_o 12 v)) ∧ P v z) := by
  subst he
  exact ev_Cv.mono (fun o z hz => ⟨w, hz.1, hQ z (BG_sb h hz.2.1 hz.2.2)⟩) (c_appI h.2.2.2 hl hx)
theorem bg_C {c : Nat} {e : Int32} (h : BG g S0 T S a w t) (he : e = Int32.ofNat c) (hc : c < 128) (hl : t.length + 1 ≤ 300) (hQ : ∀ z, BG g S0 T z a w (t ++ [c]) → P w z) : ev_Cv g m_J4_append_cf468 5 101 [ev_o 12 w, ev_i e] S (fun o z => ∃ v : Nat, o = .inl (some (ev_o 12 v)) ∧ P v z) := by
  subst he
  exact ev_Cv.mono (fun o z hz => ⟨w, hz.1, hQ z (BG_sb h hz.2.1 hz.2.2)⟩) (c_appC h.2.2.2 hl hc)
theorem BG_0 (h : BG g S0 T S a w t) : S.1 a = T.1 a := h.2.2.1 0 (by omega)
end Bg
theorem jb_dec_1 : ∀ x, x < 10 → (jb_dec x).length = 1 := by decide +kernel
theorem jb_dec_2 : ∀ x, x < 100 → (jb_dec x).length ≤ 2 ∧ ∀ c, c ∈ jb_dec x → 0 < c ∧ c < 128 := by decide +kernel
theorem jb_lit_c : ∀ k, k < 14 → ∀ c, c ∈ jb_lit k → 0 < c ∧ c < 128 := by decide +kernel
theorem tx3_len {k x y z : Nat} (hx : x < 10) (hy : y < 10) (hz : z < 10) : (tx3 k x y z).length = (jb_lit (k + 9)).length + 6 := by
  unfold tx3
  simp only [List.length_append, List.length_cons, List.length_nil, jb_dec_1 x hx, jb_dec_1 y hy, jb_dec_1 z hz]
theorem tx3_ch {k x y z : Nat} (hk : k < 5) (hx : x < 100) (hy : y < 100) (hz : z < 100) : ∀ c, c ∈ tx3 k x y z → 0 < c ∧ c < 128 := by
  intro c hc
  unfold tx3 at hc
  simp only [List.mem_append, List.mem_cons, List.not_mem_nil, or_false] at hc
  rcases hc with h | h | rfl | h | rfl | h | rfl
  · exact jb_lit_c _ (by omega) c h
  · exact (jb_dec_2 x hx).2 c h
  · omega
  · exact (jb_dec_2 y hy).2 c h
  · omega
  · exact (jb_dec_2 z hz).2 c h
  · omega
theorem tx3_app {t : List Nat} {k x y z : Nat} : ((((((t ++ jb_lit (k + 9)) ++ jb_dec x) ++ [32]) ++ jb_dec y) ++ [32]) ++ jb_dec z) ++ [59] = t ++ tx3 k x y z := by
  unfold tx3
  simp only [List.append_assoc, List.cons_append, List.nil_append]
/-- the head of the text -/
def tx_h (N lim : Nat) : List Nat := jb_lit 10 ++ (jb_dec N ++ (32 :: (jb_dec lim ++ [59])))
theorem tx_h_app {N lim : Nat} : ((((jb_lit 10) ++ jb_dec N) ++ [32]) ++ jb_dec lim) ++ [59] = tx_h N lim := by
  unfold tx_h
  simp only [List.append_assoc, List.cons_append, List.nil_append]
theorem tx_h_len {N lim : Nat} (hN : N < 10) (hl : lim < 100) : (tx_h N lim).length ≤ 10 ∧ ∀ c, c ∈ tx_h N lim → 0 < c ∧ c < 128 := by
  constructor
  · unfold tx_h
    have := (jb_dec_2 lim hl).1
    simp only [List.length_append, List.length_cons, List.length_nil, jb_dec_1 N hN]
    show 5 + _ ≤ 10
    omega
  · intro c hc
    unfold tx_h at hc
    simp only [List.mem_append, List.mem_cons, List.not_mem_nil, or_false] at hc
    rcases hc with h | h | rfl | h | rfl
    · exact jb_lit_c _ (by omega) c h
    · exact (jb_dec_2 N (by omega)).2 c h
    · omega
    · exact (jb_dec_2 lim hl).2 c h
    · omega
theorem w_cellc {g : ev_G} (hsl : ev_sl g < 2147483648) (k : Nat) (hk : k < 2000000) : ¬ ((Int32.ofNat (ev_sl g)) = 0) → vp_in (ev_rem (Int32.ofNat k) (Int32.ofNat (ev_sl g))) (ev_sl g) := fun hz => by
  rw [n_z hsl] at hz
  rw [n_remc (by omega) (by omega) hsl]
  have := Nat.mod_lt k (show ev_sl g > 0 by omega)
  rw [n_vp this (by omega)]
  trivial
/-! the boards are emptied -/
def OB (M : Nat → Nat → Int32) (a N lim np k : Nat) : Prop :=
  (M a 0 = Int32.ofNat N ∧ M a 1 = Int32.ofNat lim ∧ M a 3 = Int32.ofNat np ∧ ∀ j, j ≠ 0 → j ≠ 1 → j ≠ 3 → M a j = ct_row ct_t11 0 j) ∧ (∀ x, 1 ≤ x → x < 36 → x ≠ 3 → x ≠ 6 → x ≠ 10 → x ≠ 13 → M (a + x) = ct_row ct_t11 x) ∧ ∀ p, p < k → (∀ s, s < 64 → M (a + 2 + 7 * p + 1) s = -1) ∧ ∀ n, n < 61 → M (a + 2 + 7 * p + 4) n = -1
theorem OB_up {S : ev_S} {a N lim np k c j : Nat} {v : Int32} (hk : k < 2) (hc : c = a + 2 + 7 * k + 1 ∨ c = a + 2 + 7 * k + 4) (h : OB S.1 a N lim np k) : OB (ev_up S c j v).1 a N lim np k := by
  obtain ⟨⟨h1, h2, h3, h4⟩, h5, h6⟩ := h
  have f : ∀ x, x ≠ c → (ev_up S c j v).1 x = S.1 x := fun x hx => m_r hx
  refine ⟨by rw [f a (by omega)]; exact ⟨h1, h2, h3, h4⟩, fun x x1 x2 x3 x4 x5 x6 => by rw [f _ (by omega)]; exact h5 x x1 x2 x3 x4 x5 x6, fun p hp => ?_⟩
  rw [f _ (by omega), f _ (by omega)]
  exact h6 p hp
theorem w_empty {g : ev_G} {S0 : ev_S} {a k2 w N lim np B : Nat} {t : List Nat} {Q : ev_O → ev_S → Prop} (hQ : ∀ z, BG g S0 z z a w t → OB z.1 a N lim np 2 → ev_E g m_L_begins 9 B 150 [some (ev_o 9 (ev_b g)), some (ev_o 11 a), some (ev_x 0 k2), some (ev_o 12 w), some (ev_i (Int32.ofNat 0)), none, none] [] z Q) : ∀ (n k : Nat) (S : ev_S), k + n = 2 → BG g S0 S S a w t → OB S.1 a N lim np k → ev_E g m_L_begins 9 B 75 [some (ev_o 9 (ev_b g)), some (ev_o 11 a), some (ev_x 0 k2), some (ev_o 12 w), some (ev_i (Int32.ofNat k)), none, none] [] S Q := by
  have e2 : (2 : Int32) = Int32.ofNat 2 := rfl
  have e64 : (64 : Int32) = Int32.ofNat 64 := rfl
  have e61 : (61 : Int32) = Int32.ofNat 61 := rfl
  intro n
  induction n with
  | zero =>
    intro k S hk hB hO
    have : k = 2 := by omega
    subst this
    exact sg_L_begins_75 (ev_b g) a k2 w _ (j_pos (by rw [e2, n_le (by omega) (by omega)] <;> omega) (hQ S hB hO))
  | succ n ih =>
    intro k S hk hB hO
    have in2 : ∀ (m q : Nat) (S : ev_S), q + m = 61 → BG g S0 S S a w t → OB S.1 a N lim np k → (∀ s, s < 64 → S.1 (a + 2 + 7 * k + 1) s = -1) → (∀ s, s < q → S.1 (a + 2 + 7 * k + 4) s = -1) → ev_E g m_L_begins 9 B 114 [some (ev_o 9 (ev_b g)), some (ev_o 11 a), some (ev_x 0 k2), some (ev_o 12 w), some (ev_i (Int32.ofNat k)), some (ev_i (Int32.ofNat q)), none] [] S Q := by
      intro m
      induction m with
      | zero =>
        intro q S hq hB hO h1 h2
        have : q = 61 := by omega
        subst this
        refine sg_L_begins_114 (ev_b g) a k2 w _ _ (j_pos (by rw [e61, n_le (by omega) (by omega)] <;> omega) ?_)
        rw [n_inc]
        refine ih (k + 1) S (by omega) hB ⟨hO.1, hO.2.1, fun p hp => ?_⟩
        by_cases hpk : p = k
        · subst hpk
          exact ⟨h1, h2⟩
        · exact hO.2.2 p (by omega)
      | succ m ih2 =>
        intro q S hq hB hO h1 h2
        refine sg_L_begins_114 (ev_b g) a k2 w _ _ (j_neg (by rw [e61, n_le (by omega) (by omega)] <;> omega) ⟨(n_vp (by omega) (by omega)).mpr trivial, (n_vp (by omega) (by omega)).mpr trivial, fun S1 x1 => ?_⟩)
        rw [w_bdA (by omega), n_c (by omega)] at x1
        rw [n_inc]
        subst x1
        refine ih2 (q + 1) _ (by omega) (BG_own hB rfl (fun c hc => m_r (by omega))) (OB_up (by omega) (Or.inr rfl) hO) (fun s hs => by rw [m_r (by omega)]; exact h1 s hs) (fun s hs => ?_)
        by_cases hsq : s = q
        · subst hsq
          exact m_s _ _ _ _
        · rw [m_k hsq]
          exact h2 s (by omega)
    have in1 : ∀ (m q : Nat) (S : ev_S), q + m = 64 → BG g S0 S S a w t → OB S.1 a N lim np k → (∀ s, s < q → S.1 (a + 2 + 7 * k + 1) s = -1) → ev_E g m_L_begins 9 B 84 [some (ev_o 9 (ev_b g)), some (ev_o 11 a), some (ev_x 0 k2), some (ev_o 12 w), some (ev_i (Int32.ofNat k)), some (ev_i (Int32.ofNat q)), none] [] S Q := by
      intro m
      induction m with
      | zero =>
        intro q S hq hB hO h1
        have : q = 64 := by omega
        subst this
        refine sg_L_begins_84 (ev_b g) a k2 w _ _ (j_pos (by rw [e64, n_le (by omega) (by omega)] <;> omega) ?_)
        exact in2 61 0 S (by omega) hB hO h1 (fun s hs => absurd hs (by omega))
      | succ m ih2 =>
        intro q S hq hB hO h1
        refine sg_L_begins_84 (ev_b g) a k2 w _ _ (j_neg (by rw [e64, n_le (by omega) (by omega)] <;> omega) ⟨(n_vp (by omega) (by omega)).mpr trivial, (n_vp (by omega) (by omega)).mpr trivial, fun S1 x1 => ?_⟩)
        rw [w_bdA (by omega), n_c (by omega)] at x1
        rw [n_inc]
        subst x1
        refine ih2 (q + 1) _ (by omega) (BG_own hB rfl (fun c hc => m_r (by omega))) (OB_up (by omega) (Or.inl rfl) hO) (fun s hs => ?_)
        by_cases hsq : s = q
        · subst hsq
          exact m_s _ _ _ _
        · rw [m_k hsq]
          exact h1 s (by omega)
    refine sg_L_begins_75 (ev_b g) a k2 w _ (j_neg (by rw [e2, n_le (by omega) (by omega)] <;> omega) ?_)
    exact in1 64 0 S (by omega) hB hO (fun s hs => absurd hs (by omega))
