/-! ===== the class: a picture that lies elsewhere ===== -/
theorem b_shift {M M' : Nat → Nat → Int32} {a b p n m : Nat} {r : Nat → Int32} (hm : m ≤ 60) (h : ∀ q q' c k, q = a + c → q' = b + c → c < 5 → Pb c k → M' q' k = M q k) (hb : q_board M a r p n m) : q_board M' b r p n m := by
  obtain ⟨h1, h2, h3, h4, h5, h6, h7, h8, h9⟩ := hb
  refine ⟨fun s hs => ?_, ?_, ?_, ?_, ?_, ?_, ?_, ?_, fun k hk => ?_⟩
  · rw [h (a + 1) (b + 1) 1 s rfl rfl (by decide) (Or.inr (Or.inl ⟨rfl, hs⟩))]; exact h1 s hs
  · rw [h (a + 2) (b + 2) 2 0 rfl rfl (by decide) (Or.inr (Or.inr (Or.inl ⟨rfl, by decide⟩)))]; exact h2
  · rw [h (a + 2) (b + 2) 2 1 rfl rfl (by decide) (Or.inr (Or.inr (Or.inl ⟨rfl, by decide⟩)))]; exact h3
  · rw [h a b 0 4 rfl rfl (by decide) (Or.inl ⟨rfl, by decide, by decide⟩)]; exact h4
  · rw [h a b 0 5 rfl rfl (by decide) (Or.inl ⟨rfl, by decide, by decide⟩)]; exact h5
  · rw [h a b 0 6 rfl rfl (by decide) (Or.inl ⟨rfl, by decide, by decide⟩)]; exact h6
  · rw [h a b 0 7 rfl rfl (by decide) (Or.inl ⟨rfl, by decide, by decide⟩)]; exact h7
  · rw [h a b 0 8 rfl rfl (by decide) (Or.inl ⟨rfl, by decide, by decide⟩)]; exact h8
  · rw [h (a + 3) (b + 3) 3 (k + 1) rfl rfl (by decide) (Or.inr (Or.inr (Or.inr (Or.inl ⟨rfl, by omega⟩)))), h (a + 4) (b + 4) 4 (k + 1) rfl rfl (by decide) (Or.inr (Or.inr (Or.inr (Or.inr ⟨rfl, by omega⟩))))]
    exact h9 k hk
theorem d_shift {M M' : Nat → Nat → Int32} {a b p n : Nat} {r : Nat → Int32} (hm : o_mad r p ≤ 60) (h0 : M' b 0 = Int32.ofNat p) (h : ∀ q q' c k, q = a + c → q' = b + c → c < 9 → Pd c k → M' q' k = M q k) (hb : q_dk M a r p n) : q_dk M' b r p n := by
  unfold q_dk at *
  obtain ⟨a0, a1, a2, a3, a4, a5, a6, a7, a8, a9⟩ := hb
  have f : ∀ k, 5 ≤ k → k ≤ 10 → M' b k = M a k := fun k h1 h2 => h a b 0 k rfl rfl (by decide) (Or.inl ⟨rfl, h1, h2⟩)
  have g6 : ∀ k, k < 61 → M' (b + 6) k = M (a + 6) k := fun k h1 => h _ _ 6 k rfl rfl (by decide) (Or.inr (Or.inr ⟨by decide, by decide, h1⟩))
  have g7 : ∀ k, k < 61 → M' (b + 7) k = M (a + 7) k := fun k h1 => h _ _ 7 k rfl rfl (by decide) (Or.inr (Or.inr ⟨by decide, by decide, h1⟩))
  have g8 : ∀ k, k < 61 → M' (b + 8) k = M (a + 8) k := fun k h1 => h _ _ 8 k rfl rfl (by decide) (Or.inr (Or.inr ⟨by decide, by decide, h1⟩))
  refine ⟨h0, b_shift hm (fun q q' c k e1 e2 hc hP => h q q' (c + 1) k (by omega) (by omega) (by omega) (Or.inr (Or.inl ⟨by omega, by omega, hP⟩))) a1, fun k hk => ?_, fun k hk => ?_, ?_, ?_, ?_, ?_, ?_, ?_⟩
  · rw [g6 k (by omega)]; exact a2 k hk
  · rw [g7 k (by omega), g8 k (by omega)]; exact a3 k hk
  · rw [f 5 (by decide) (by decide)]; exact a4
  · rw [f 6 (by decide) (by decide)]; exact a5
  · rw [f 7 (by decide) (by decide)]; exact a6
  · rw [f 8 (by decide) (by decide)]; exact a7
  · rw [f 9 (by decide) (by decide)]; exact a8
  · rw [f 10 (by decide) (by decide)]; exact a9
theorem p_shift {M M' : Nat → Nat → Int32} {a b L : Nat} {r : Nat → Int32} {ρ : List Nat} (hL : L ≤ 84) (hρ : ρ.length ≤ 84) (h : ∀ q q' c k, q = a + c → q' = b + c → c < 17 → Pp c k → M' q' k = M q k) (hb : q_pst M a r L ρ) : q_pst M' b r L ρ := by
  obtain ⟨⟨⟨a1, a2, a3, a4, a5⟩, c, w⟩, h2, h3⟩ := hb
  have f : ∀ k, (k = 13 ∨ k = 14 ∨ k = 16 ∨ k = 17) → M' b k = M a k := fun k hk => h a b 0 k rfl rfl (by decide) (Or.inl ⟨rfl, hk⟩)
  have y : ∀ c k, c < 4 → Pq c k → M' (b + (1 + c)) k = M (a + (1 + c)) k := fun c k hc hP => h _ _ (1 + c) k rfl rfl (by omega) (Or.inr (Or.inl ⟨by omega, by omega, by rw [Nat.add_sub_cancel_left]; exact hP⟩))
  have l : ∀ c k, 5 ≤ c → c < 15 → k < 84 → M' (b + c) k = M (a + c) k := fun c k h1 h2 h3 => h _ _ c k rfl rfl (by omega) (Or.inr (Or.inr (Or.inl ⟨h1, h2, h3⟩)))
  have s8 : ∀ k, k < 8 → M' (b + 16) k = M (a + 16) k := fun k h3 => h _ _ 16 k rfl rfl (by decide) (Or.inr (Or.inr (Or.inr ⟨rfl, h3⟩)))
  have y0 : ∀ k, (k = 3 ∨ k = 4) → M' (b + 1) k = M (a + 1) k := fun k hk => y 0 k (by decide) (Or.inl ⟨rfl, hk⟩)
  have y1 : ∀ k, k < 4 → M' (b + 2) k = M (a + 2) k := fun k hk => y 1 k (by decide) (Or.inr (Or.inl ⟨rfl, hk⟩))
  have y2 : ∀ k, k < 48 → M' (b + 3) k = M (a + 3) k := fun k hk => y 2 k (by decide) (Or.inr (Or.inr (Or.inl ⟨rfl, hk⟩)))
  have y3 : ∀ k, k < 8 → M' (b + 4) k = M (a + 4) k := fun k hk => y 3 k (by decide) (Or.inr (Or.inr (Or.inr ⟨rfl, hk⟩)))
  refine ⟨⟨⟨?_, ?_, ?_, ?_, ?_⟩, fun q hq => ?_, fun i hi => ?_⟩, ?_, ?_⟩
  · rw [y0 3 (Or.inl rfl)]; exact a1
  · rw [y0 4 (Or.inr rfl)]; exact a2
  · rw [f 13 (Or.inl rfl)]; exact a3
  · rw [f 16 (Or.inr (Or.inr (Or.inl rfl)))]; exact a4
  · rw [f 17 (Or.inr (Or.inr (Or.inr rfl)))]; exact a5
  · obtain ⟨c1, c2, c3, c4⟩ := c q hq
    refine ⟨by rw [y1 q hq]; exact c1, fun s hs => by rw [y3 _ (by omega)]; exact c2 s hs, fun t ht => by rw [y2 _ (by omega)]; exact c3 t ht, fun s hs => by rw [s8 _ (by omega)]; exact c4 s hs⟩
  · rw [l 5 i (by decide) (by decide) (by omega), l 9 i (by decide) (by decide) (by omega), l 10 i (by decide) (by decide) (by omega), l 11 i (by decide) (by decide) (by omega), l 12 i (by decide) (by decide) (by omega), l 13 i (by decide) (by decide) (by omega)]
    exact w i hi
  · exact q_arr_congr ρ 0 (fun j _ hj => l 14 j (by decide) (by decide) (by omega)) h2
  · rw [f 14 (Or.inr (Or.inl rfl))]; exact h3
theorem g_shift {M M' : Nat → Nat → Int32} {a b n lim np L d : Nat} {r : Nat → Int32} {ρ : List Nat} (hi : IG r n lim np L d ρ) (h0 : M' (b + 1) 0 = 0) (h1 : M' (b + 10) 0 = 1) (h : ∀ c k, c < 36 → Pg c k → M' (b + c) k = M (a + c) k) (hb : q_gm M a r n L ρ) : q_gm M' b r n L ρ := by
  obtain ⟨g1, g2, g3, g4, g5⟩ := hb
  have hL := hi.1.2.2.2.2.2.1
  have hρ := nd_le L ρ (i_road_nd hi.2.1.2.2) (fun x hx => (hi.2.1.2.2.1 x hx).1)
  have hh : ∀ q q' c k, q = a + c → q' = b + c → c < 36 → Pg c k → M' q' k = M q k := fun q q' c k e1 e2 hc hP => by subst e1 e2; exact h c k hc hP
  refine ⟨fun p hp => ?_, ?_, fun l hl => ?_, ?_, ?_⟩
  · refine d_shift (i_dk_mad (i_dk_of hi.1 hp)) ?_ (fun q q' c k e1 e2 hc hP => hh q q' (1 + 9 * p + c) k (by omega) (by omega) (by omega) ?_) (g1 p hp)
    · have : p = 0 ∨ p = 1 := by omega
      rcases this with rfl | rfl
      · exact h0
      · exact h1
    · have : p = 0 ∨ p = 1 := by omega
      rcases this with rfl | rfl
      · exact Or.inr (Or.inl ⟨by omega, by omega, by rw [show 1 + 9 * 0 + c - 1 = c by omega]; exact hP⟩)
      · exact Or.inr (Or.inr (Or.inl ⟨by omega, by omega, by rw [show 1 + 9 * 1 + c - 10 = c by omega]; exact hP⟩))
  · exact p_shift (by omega) (by omega) (fun q q' c k e1 e2 hc hP => hh q q' (19 + c) k (by omega) (by omega) (by omega) (Or.inr (Or.inr (Or.inr ⟨by omega, by omega, by rw [Nat.add_sub_cancel_left]; exact hP⟩)))) g2
  · have l9 : ∀ c, 24 ≤ c → c < 34 → M' (b + c) l = M (a + c) l := fun c h1 h2 => h c l (by omega) (Or.inr (Or.inr (Or.inr ⟨by omega, by omega, Or.inr (Or.inr (Or.inl ⟨by omega, by omega, by omega⟩))⟩)))
    unfold q_con
    rw [l9 25 (by decide) (by decide), l9 26 (by decide) (by decide), l9 27 (by decide) (by decide)]
    exact g3 l hl
  · rw [hh a b 0 4 rfl rfl (by decide) (Or.inl ⟨rfl, Or.inl rfl⟩)]; exact g4
  · rw [hh a b 0 5 rfl rfl (by decide) (Or.inl ⟨rfl, Or.inr rfl⟩)]; exact g5
/-- a game is copied: its picture too -/
theorem g_copied {g : ev_G} {S : ev_S} {a b n lim np L d : Nat} {r : Nat → Int32} {ρ : List Nat} (hd : a + 36 ≤ b ∨ b + 36 ≤ a) (hi : IG r n lim np L d ρ) (h0 : S.1 (a + 1) 0 = 0) (h1 : S.1 (a + 10) 0 = 1) (hg : q_gm S.1 b r n L ρ) {Q : ev_O → ev_S → Prop}
    (hQ : ∀ z, q_fr S z a 36 → z.1 (a + 1) 0 = 0 → z.1 (a + 10) 0 = 1 → q_gm z.1 a r n L ρ → Q (.inl none) z) : ev_Cv g m_X2_copyFrom 4 0 [ev_o 2 a, ev_o 2 b] S Q := by
  refine g_copy hd (fun z z1 z2 z3 => ?_)
  exact hQ z z1.1 (by rw [z2, h0]) (by rw [z3, h1]) (g_shift hi (by rw [z2, h0]) (by rw [z3, h1]) z1.2 hg)
