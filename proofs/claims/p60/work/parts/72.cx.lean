/-! ===== rows alike below 2091; the class: a game is remembered ===== -/
theorem IG_lt {r r' : Nat → Int32} {n lim np L d : Nat} {ρ : List Nat} (h : IG r n lim np L d ρ) (a : ∀ j, j < 2091 → r' j = r j) : IG r' n lim np L d ρ := by
  have hL := h.1.2.2.2.2.2.1
  have hnp := h.1.2.2.2.1
  obtain ⟨h1, ⟨⟨g1, g2, g3, g4, g5, g5', g6, g7⟩, ⟨dp, h6, hdp, hlv⟩, hro⟩, hb⟩ := h
  refine ⟨IR_same h1 (fun j hj => a j (by rcases hj with hj | hj | ⟨l, w, h1, h2, h3⟩ <;> omega)), ⟨⟨by rw [a _ (by omega)]; exact g1, g2, by rw [a _ (by omega)]; exact g3, g4, by rw [a _ (by omega)]; exact g5, g5', fun q hq => ?_, fun l hl => ?_⟩, ⟨dp, by rw [a _ (by omega)]; exact h6, ?_, fun l hl => ?_⟩, fun l hl => ?_, ?_, fun l hl => ?_⟩, fun p hp => i_bd_same h1.1.2.1 (i_dk_mad (i_dk_of h1 hp)) hp (fun j hj => a j (by omega)) (hb p hp)⟩
  · rw [a _ (by omega)]
    refine ⟨(g6 q hq).1, fun t ht => ?_⟩
    rw [a _ (by omega)]
    exact (g6 q hq).2 t ht
  · rw [a (1200 + 11 * l) (by omega), a (1200 + 11 * l + 1) (by omega), a (1200 + 11 * l + 6) (by omega), a (1200 + 11 * l + 9) (by omega)]
    exact g7 l hl
  · rw [cnt_congr (h := fun l => decide (r (1200 + 11 * l + 6) = 0)) L (fun i hi => by simp only [a (1200 + 11 * i + 6) (by omega)])]
    exact hdp
  · rw [a (1200 + 11 * l + 6) (by omega), a (1200 + 11 * l + 8) (by omega)]
    exact hlv l hl
  · have hl2 := (hro.1 l hl).1
    rw [a (1200 + 11 * l + 6) (by omega), a (1200 + 11 * l + 8) (by omega)]
    exact hro.1 l hl
  · refine List.Pairwise.imp_of_mem (fun {x y} hx hy hxy => ?_) hro.2.1
    have h1 := (hro.1 x hx).1
    have h2 := (hro.1 y hy).1
    rw [a _ (by omega), a _ (by omega)]
    exact hxy
  · rw [a (1200 + 11 * l + 6) (by omega), a (1200 + 11 * l + 8) (by omega)]
    exact hro.2.2 l hl
theorem q_gm_lt {M : Nat → Nat → Int32} {e n lim np L d : Nat} {r r' : Nat → Int32} {ρ : List Nat} (h : IG r n lim np L d ρ) (a : ∀ j, j < 2091 → r' j = r j) (hg : q_gm M e r n L ρ) : q_gm M e r' n L ρ := by
  have hL := h.1.2.2.2.2.2.1
  obtain ⟨g1, g2, g3, g4, g5⟩ := hg
  refine ⟨fun p hp => ?_, ⟨?_, g2.2.1, g2.2.2⟩, fun l hl => ?_, by rw [g4, a _ (by omega)], by rw [g5, a _ (by omega)]⟩
  · refine q_dk_same2 h.1.1.2.1 (i_dk_mad (i_dk_of h.1 hp)) hp (fun j hj => a j (by unfold o_own at hj; omega)) (fun k w hk hw => a _ ?_) (g1 p hp)
    have := o_fl_or p k
    omega
  · obtain ⟨⟨a1, a2, a3, a4, a5⟩, c, w⟩ := g2.1
    refine ⟨⟨by rw [a _ (by omega)]; exact a1, by rw [a _ (by omega)]; exact a2, by rw [a _ (by omega)]; exact a3, by rw [a _ (by omega)]; exact a4, by rw [a _ (by omega)]; exact a5⟩, fun q hq => ?_, fun l hl => ?_⟩
    · obtain ⟨c1, c2, c3, c4⟩ := c q hq
      refine ⟨by rw [a _ (by omega)]; exact c1, fun s hs => by rw [a _ (by omega)]; exact c2 s hs, fun t ht => by rw [a _ (by omega)]; exact c3 t ht, fun s hs => ?_⟩
      rw [c4 s hs]
      refine congrArg Int32.ofNat ?_
      exact cnt_congr L (fun j hj => (o_wt_same (a _ (by omega)) (a _ (by omega)) (by rw [a _ (by omega)])).symm)
    · rw [a (1200 + 11 * l) (by omega), a (1200 + 11 * l + 1) (by omega), a (1200 + 11 * l + 6) (by omega), a (1200 + 11 * l + 7) (by omega), a (1200 + 11 * l + 9) (by omega), a (1200 + 11 * l + 10) (by omega)]
      exact w l hl
  · obtain ⟨k, hL'⟩ := IR_let h.1 hl
    obtain ⟨-, -, -, hk', -, -, ek', -⟩ := hL'
    have c := g3 l hl
    unfold q_con at c ⊢
    rw [a (1200 + 11 * l + 3) (by omega), a (1200 + 11 * l + 4) (by omega), a (1200 + 11 * l + 5) (by omega), a (1200 + 11 * l + 2) (by omega), ek', n_c (by omega), a _ (by omega), a _ (by omega), ← ek']
    rw [ek', n_c (by omega), ← ek'] at c
    exact c
theorem q_gm_frame {M M' : Nat → Nat → Int32} {e n L : Nat} {r : Nat → Int32} {ρ : List Nat} (f : ∀ q, e ≤ q → q < e + 36 → M' q = M q) (hg : q_gm M e r n L ρ) : q_gm M' e r n L ρ := by
  obtain ⟨g1, g2, g3, g4, g5⟩ := hg
  refine ⟨fun p hp => q_dk_frame (M := M) (fun q h1 h2 => f q (by omega) (by omega)) (g1 p hp), q_pst_frame (M := M) (fun q h1 h2 => f q (by omega) (by omega)) g2, fun l hl => ?_, by rw [f e (by omega) (by omega)]; exact g4, by rw [f e (by omega) (by omega)]; exact g5⟩
  have c := g3 l hl
  unfold q_con at c ⊢
  rw [f _ (by omega) (by omega), f (e + 26) (by omega) (by omega), f (e + 27) (by omega) (by omega)]
  exact c
/-- the class's game at e is the reference's row r -/
def q_any (M : Nat → Nat → Int32) (e : Nat) (r : Nat → Int32) : Prop := ∃ n lim np L d ρ, IG r n lim np L d ρ ∧ L ≤ 80 ∧ d < 10000 ∧ q_gm M e r n L ρ ∧ i_ok r n np L
theorem q_any_frame {M M' : Nat → Nat → Int32} {e : Nat} {r : Nat → Int32} (f : ∀ q, e ≤ q → q < e + 36 → M' q = M q) (h : q_any M e r) : q_any M' e r := by
  obtain ⟨n, lim, np, L, d, ρ, h1, h2, h3, h4, h5⟩ := h
  exact ⟨n, lim, np, L, d, ρ, h1, h2, h3, q_gm_frame f h4, h5⟩
theorem q_any_lt {M : Nat → Nat → Int32} {e : Nat} {r r' : Nat → Int32} (a : ∀ j, j < 2091 → r' j = r j) (h : q_any M e r) : q_any M e r' := by
  obtain ⟨n, lim, np, L, d, ρ, h1, h2, h3, h4, h5⟩ := h
  exact ⟨n, lim, np, L, d, ρ, IG_lt h1 a, h2, h3, q_gm_lt h1 a h4, i_ok_lt h2 h5 a⟩
/-- a desk's player, in a game at e -/
def q_sh (M : Nat → Nat → Int32) (e : Nat) : Prop := M (e + 1) 0 = 0 ∧ M (e + 10) 0 = 1
/-- the class's history at a is the reference's kept rows R, u of them -/
def q_his (M : Nat → Nat → Int32) (a : Nat) (R : Nat → Int32) (u : Nat) : Prop :=
  M a 1 = Int32.ofNat u ∧ u ≤ 8 ∧ ∃ w, w < 8 ∧ M a 2 = Int32.ofNat w ∧ (∀ i, i < 8 → q_sh M (a + 2 + 41 * i)) ∧ ∀ i, i < u → ∃ r, (∀ j, j < 2091 → R (2091 * (u - 1 - i) + j) = r j) ∧ q_any M (a + 2 + 41 * ((w + 8 - i) % 8)) r
theorem n_min8 {u : Nat} (hu : u ≤ 8) : ev_min (Int32.ofNat u + 1) 8 = Int32.ofNat (o_ku u) := by
  have : u = 0 ∨ u = 1 ∨ u = 2 ∨ u = 3 ∨ u = 4 ∨ u = 5 ∨ u = 6 ∨ u = 7 ∨ u = 8 := by omega
  rcases this with h | h | h | h | h | h | h | h | h <;> subst h <;> rfl
theorem q_his_step {M M' : Nat → Nat → Int32} {a u w : Nat} {R r : Nat → Int32} (hu : u ≤ 8) (hw : w < 8) (hsh : ∀ i, i < 8 → q_sh M (a + 2 + 41 * i)) (hg : ∀ i, i < u → ∃ r, (∀ j, j < 2091 → R (2091 * (u - 1 - i) + j) = r j) ∧ q_any M (a + 2 + 41 * ((w + 8 - i) % 8)) r)
    (h1 : M' a 1 = Int32.ofNat (o_ku u)) (h2 : M' a 2 = Int32.ofNat ((w + 1) % 8)) (f : ∀ q, q < a + 2 + 41 * ((w + 1) % 8) ∨ a + 2 + 41 * ((w + 1) % 8) + 36 ≤ q → q ≠ a → M' q = M q) (s : q_sh M' (a + 2 + 41 * ((w + 1) % 8))) (hn : q_any M' (a + 2 + 41 * ((w + 1) % 8)) r) : q_his M' a (o_kp R r u) (o_ku u) := by
  have hk : o_ku u ≤ 8 := by unfold o_ku; split <;> omega
  refine ⟨h1, hk, (w + 1) % 8, Nat.mod_lt _ (by decide), h2, fun i hi => ?_, fun i hi => ?_⟩
  · by_cases hiw : i = (w + 1) % 8
    · rw [hiw]; exact s
    · obtain ⟨s1, s2⟩ := hsh i hi
      have hw8 : (w + 1) % 8 < 8 := Nat.mod_lt _ (by decide)
      exact ⟨by rw [f _ (by omega) (by omega)]; exact s1, by rw [f _ (by omega) (by omega)]; exact s2⟩
  · by_cases hi0 : i = 0
    · refine ⟨r, fun j hj => ?_, ?_⟩
      · rw [hi0]
        unfold o_kp o_ku
        by_cases hu8 : u = 8
        · rw [if_pos hu8, if_pos hu8]
          unfold o_cpn
          rw [if_pos (by omega), show 2091 * (8 - 1 - 0) + j - 2091 * 7 = j by omega]
        · rw [if_neg hu8, if_neg hu8]
          unfold o_cpn
          rw [show u + 1 - 1 - 0 = u by omega, if_pos (by omega), show 2091 * u + j - 2091 * u = j by omega]
      · rw [hi0, show ((w + 1) % 8 + 8 - 0) % 8 = (w + 1) % 8 by omega]
        exact hn
    · have hi1 : i - 1 < u := by
        unfold o_ku at hi
        split at hi <;> omega
      obtain ⟨r0, e0, q0⟩ := hg (i - 1) hi1
      have hix : ((w + 1) % 8 + 8 - i) % 8 = (w + 8 - (i - 1)) % 8 := by omega
      refine ⟨r0, fun j hj => ?_, ?_⟩
      · rw [← e0 j hj]
        unfold o_kp o_ku
        by_cases hu8 : u = 8
        · rw [if_pos hu8, if_pos hu8]
          unfold o_cpn o_sh
          have hi8 : i < 8 := by
            unfold o_ku at hi
            rw [if_pos hu8] at hi
            exact hi
          rw [if_neg (by omega), if_pos (by omega), show 2091 * (8 - 1 - i) + j + 2091 = 2091 * (u - 1 - (i - 1)) + j by omega]
        · rw [if_neg hu8, if_neg hu8]
          unfold o_cpn
          rw [show u + 1 - 1 - i = u - 1 - (i - 1) by omega, if_neg]
          have hx : u - 1 - (i - 1) + 1 ≤ u := by omega
          have := Nat.mul_le_mul_left 2091 hx
          omega
      · rw [hix]
        have hne : (w + 8 - (i - 1)) % 8 ≠ (w + 1) % 8 := by omega
        have hl1 : (w + 8 - (i - 1)) % 8 < 8 := Nat.mod_lt _ (by decide)
        have hl2 : (w + 1) % 8 < 8 := Nat.mod_lt _ (by decide)
        generalize (w + 8 - (i - 1)) % 8 = x at *
        generalize (w + 1) % 8 = y at *
        exact q_any_frame (M := M) (fun q h1 h2 => f q (by omega) (by omega)) q0
theorem h_remember {g : ev_G} {S : ev_S} {a b u : Nat} {R r : Nat → Int32} (hab : b + 41 ≤ a ∨ a + 330 ≤ b) (h : q_his S.1 a R u) (hr : q_any S.1 b r) {Q : ev_O → ev_S → Prop}
    (hQ : ∀ z, q_fr S z a 330 → q_his z.1 a (o_kp R r u) (o_ku u) → Q (.inl none) z) : ev_Cv g m_X3_remember 5 0 [ev_o 3 a, ev_o 2 b] S Q := by
  obtain ⟨h1, hu, w, hw, h2, hsh, hg⟩ := h
  obtain ⟨n, lim, np, L, d, ρ, i1, i2, i3, i4, i5⟩ := id hr
  have e8 : (8 : Int32) = Int32.ofNat 8 := rfl
  have hl2 : (w + 1) % 8 < 8 := Nat.mod_lt _ (by decide)
  have go : ∀ S1 S2 : ev_S, S1 = ev_up S a 2 (Int32.ofNat ((w + 1) % 8)) → S2 = ev_up S1 a 1 (ev_min (S.1 a 1 + 1) 8) →
      (((S2.1 a 2) < 0) → False) ∧ (¬ ((S2.1 a 2) < 0) → (8 ≤ (S2.1 a 2)) → False) ∧ (¬ ((S2.1 a 2) < 0) → ¬ (8 ≤ (S2.1 a 2)) → vp_in (S2.1 a 2) 8) ∧ ev_Cv g m_X2_copyFrom 4 0 [ev_o 2 (a_past (a + 1) (S2.1 a 2)), ev_o 2 b] S2 (fun o S3 => o = .inl none ∧ Q (.inl none) S3) := by
    intro S1 S2 e1 e2
    rw [h1, n_min8 hu] at e2
    have x2 : S2.1 a 2 = Int32.ofNat ((w + 1) % 8) := by rw [e2, m_k (by omega), e1, m_s]
    have x1 : S2.1 a 1 = Int32.ofNat (o_ku u) := by rw [e2, m_s]
    have xf : ∀ q, q ≠ a → S2.1 q = S.1 q := fun q hq => by rw [e2, m_r hq, e1, m_r hq]
    rw [x2]
    refine ⟨fun hh => ?_, fun _ hh => ?_, fun _ _ => (n_vp (by omega) (by omega)).mpr trivial, ?_⟩
    · rw [n_neg (by omega)] at hh; exact hh
    · rw [e8, n_le (by omega) (by omega)] at hh; omega
    · have ea : a_past (a + 1) (Int32.ofNat ((w + 1) % 8)) = a + 2 + 41 * ((w + 1) % 8) := by
        unfold a_past
        rw [n_c (by omega)]
      rw [ea]
      have hs := hsh _ hl2
      generalize hy : (w + 1) % 8 = y at *
      refine g_copied (a := a + 2 + 41 * y) (b := b) (by omega) i1 (by rw [xf _ (by omega)]; exact hs.1) (by rw [xf _ (by omega)]; exact hs.2) (q_gm_frame (M := S.1) (fun q h1 h2 => xf q (by omega)) i4) (fun z z1 z2 z3 z4 => ⟨rfl, ?_⟩)
      refine hQ z ⟨z1.1.trans (by rw [e2, e1]; rfl), fun q hq => by rw [z1.2 q (by omega), xf q (by omega)]⟩ ?_
      refine q_his_step (M := S.1) hu hw hsh hg (by rw [z1.2 a (by omega), x1]) (by rw [z1.2 a (by omega), x2, hy]) (fun q hq hqa => ?_) ?_ ?_
      · rw [hy] at hq
        rw [z1.2 q (by omega), xf q hqa]
      · rw [hy]; exact ⟨z2, z3⟩
      · rw [hy]; exact ⟨n, lim, np, L, d, ρ, i1, i2, i3, z4, i5⟩
  refine sg_X3_remember_0 a b ?_
  rw [h2, n_inc]
  by_cases hw7 : w = 7
  · refine j_pos (by rw [hw7]; decide) ?_
    intro S1 e1 S2 e2
    have e11 : S1.1 a 1 = S.1 a 1 := by rw [e1, m_k (by omega)]
    exact go S1 S2 (by rw [e1, hw7]; rfl) (by rw [e2])
  · refine j_neg (by rw [e8, n_le (by omega) (by omega)]; omega) ?_
    intro S1 e1 S2 e2
    have e11 : S1.1 a 1 = S.1 a 1 := by rw [e1, m_k (by omega)]
    exact go S1 S2 (by rw [e1, show (w + 1) % 8 = w + 1 by omega]) (by rw [e2])
