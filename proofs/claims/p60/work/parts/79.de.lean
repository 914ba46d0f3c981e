/-! ===== the class: a letter more in a game; a copy is sent ===== -/
theorem q_gm_add {M M' : Nat → Nat → Int32} {e n lim np L d b q k f t : Nat} {isp : Int32} {r : Nat → Int32} {ρ : List Nat} (h : IG r n lim np L d ρ) (hL : L < 80) (hk : k ≤ 60) (hg : q_gm M e r n L ρ)
    (hf : ∀ y, e ≤ y → y < e + 19 → M' y = M y) (hp : q_pst M' (e + 19) (o_post r L (Int32.ofNat b) (Int32.ofNat q) isp (Int32.ofNat k) (Int32.ofNat f) (Int32.ofNat t)) (L + 1) ρ)
    (z6 : ∀ j, M' (e + 25) j = if j = L then Int32.ofNat k else M (e + 25) j) (z7 : ∀ j, M' (e + 26) j = if j = L then Int32.ofNat f * 64 + Int32.ofNat t else M (e + 26) j)
    (z8 : ∀ j, M' (e + 27) j = if j = L then (if isp = 1 then r (762 + 6 * k) * 64 + r (762 + 6 * k + 1) else -1) else M (e + 27) j) :
    q_gm M' e (o_post r L (Int32.ofNat b) (Int32.ofNat q) isp (Int32.ofNat k) (Int32.ofNat f) (Int32.ofNat t)) n (L + 1) ρ := by
  obtain ⟨p4, p0, p1, p2, p3, p4', p5, p6, p7⟩ := o_post_f (r := r) (l := L) (x0 := Int32.ofNat b) (x1 := Int32.ofNat q) (x2 := isp) (x3 := Int32.ofNat k) (x4 := Int32.ofNat f) (x5 := Int32.ofNat t)
  have o : ∀ j, (j < 1200 + 11 * L ∨ 1200 + 11 * L + 7 < j) → j ≠ 4 → o_post r L (Int32.ofNat b) (Int32.ofNat q) isp (Int32.ofNat k) (Int32.ofNat f) (Int32.ofNat t) j = r j := fun j h h4 => o_post_at h h4
  generalize o_post r L (Int32.ofNat b) (Int32.ofNat q) isp (Int32.ofNat k) (Int32.ofNat f) (Int32.ofNat t) = r' at *
  obtain ⟨g1, g2, g3, g4, g5⟩ := hg
  refine ⟨fun p hp2 => ?_, hp, fun l hl => ?_, ?_, ?_⟩
  · refine q_dk_same2 h.1.1.2.1 (i_dk_mad (i_dk_of h.1 hp2)) hp2 (fun j hj => o j (Or.inl ?_) ?_) (fun k w hk hw => o _ (Or.inl ?_) ?_) (q_dk_frame (M := M) (fun y h1 h2 => hf y (by omega) (by omega)) (g1 p hp2))
    · unfold o_own at hj
      omega
    · unfold o_own at hj
      omega
    · have := o_fl_or p k
      omega
    · omega
  · unfold q_con
    rw [z6, z7, z8]
    by_cases hlL : l = L
    · subst hlL
      rw [if_pos rfl, if_pos rfl, if_pos rfl, p3, p4', p5, p2, n_c (by omega), o (762 + 6 * k) (by omega) (by omega), o (762 + 6 * k + 1) (by omega) (by omega)]
      exact ⟨rfl, rfl, rfl⟩
    · obtain ⟨k', hL'⟩ := IR_let h.1 (show l < L by omega)
      obtain ⟨-, -, -, hk', -, -, ek', -⟩ := hL'
      have c := g3 l (by omega)
      unfold q_con at c
      rw [if_neg hlL, if_neg hlL, if_neg hlL, o (1200 + 11 * l + 3) (by omega) (by omega), o (1200 + 11 * l + 4) (by omega) (by omega), o (1200 + 11 * l + 5) (by omega) (by omega), o (1200 + 11 * l + 2) (by omega) (by omega), ek', n_c (by omega), o (762 + 6 * k') (by omega) (by omega), o (762 + 6 * k' + 1) (by omega) (by omega), ← ek']
      rw [ek', n_c (by omega), ← ek'] at c
      exact c
  · rw [hf e (by omega) (by omega), g4, o 2 (by omega) (by omega)]
  · rw [hf e (by omega) (by omega), g5, o 5 (by omega) (by omega)]
/-- a copy of letter l by route q -/
def o_res (r : Nat → Int32) (l q L : Nat) : Nat → Int32 := o_post r L (r (1200 + 11 * l)) (Int32.ofNat q) (r (1200 + 11 * l + 2)) (r (1200 + 11 * l + 3)) (r (1200 + 11 * l + 4)) (r (1200 + 11 * l + 5))
theorem IG_res {r : Nat → Int32} {n lim np L d l q : Nat} {ρ : List Nat} (h : IG r n lim np L d ρ) (hL : L < 80) (hl : l < L) (hq : q < np) : IG (o_res r l q L) n lim np (L + 1) d ρ := by
  obtain ⟨k, hb, -, hk1, hk, eb, -, ek, f, t, hf, ht, hft, ef, et, hi⟩ := IR_let h.1 hl
  unfold o_res
  rw [eb, ek, ef, et]
  refine IG_post h hL hb hq hk1 hk hf ht hft ?_
  rcases hi with hi | hi
  · exact Or.inl hi
  · exact Or.inr hi
theorem g_resend {g : ev_G} {S : ev_S} {e n lim np L d l q : Nat} {r : Nat → Int32} {ρ : List Nat} (h : IG r n lim np L d ρ) (hL : L < 80) (hl : l < L) (hq : q < np) (hg : q_gm S.1 e r n L ρ) {Q : ev_O → ev_S → Prop}
    (hQ : ∀ z, q_fr S z e 36 → q_gm z.1 e (o_res r l q L) n (L + 1) ρ → Q (.inl (some (ev_i (Int32.ofNat L)))) z) : ev_Cv g m_X2_makeCopy 4 0 [ev_o 2 e, ev_i (Int32.ofNat l), ev_i (Int32.ofNat q)] S Q := by
  obtain ⟨k, hb, -, hk1, hk, eb, -, ek, f, t, hf, ht, hft, ef, et, hi⟩ := IR_let h.1 hl
  have hnp := h.1.2.2.2.1
  have hn9 := sq_le h.1.1.2.1
  obtain ⟨c1, c2, c3⟩ := hg.2.2.1 l hl
  have hw : S.1 (e + 24) l = Int32.ofNat (o_b r l) := by
    have := (hg.2.1.1.2.2 l hl).1
    rw [eb] at this
    exact this
  have h4 : S.1 e 4 = r 2 := hg.2.2.2.1
  refine sg_X2_makeCopy_0 e _ _ ?_
  rw [a_in (by omega) (by omega), a_in (by omega) (by omega), a_in (by omega) (by omega), a_in (by omega) (by omega), hw, c1, c2, c3, h4]
  refine p_add (x2 := r (1200 + 11 * l + 2)) (x3 := r (1200 + 11 * l + 3)) (x4 := r (1200 + 11 * l + 4)) (x5 := r (1200 + 11 * l + 5)) h.2.1.1 hL hb hq hg.2.1 (fun z z0 z1 z2 z6 z7 z8 => ⟨_, rfl, ?_⟩)
  have fr : ∀ y, y < e + 19 ∨ e + 36 ≤ y → z.1 y = S.1 y := fun y hy => z1 y (by omega) (by omega) (by omega) (by omega) (by omega) (by omega) (by omega) (by omega) (by omega)
  refine hQ z ⟨z0, fun y hy => fr y (by omega)⟩ ?_
  unfold o_res
  rw [ek, ef, et] at z2 ⊢
  rw [eb]
  refine q_gm_add (k := k) h hL hk hg (fun y h1 h2 => fr y (by omega)) z2 (fun j => ?_) (fun j => ?_) (fun j => ?_)
  · rw [← ek]; exact z6 j
  · rw [← ef, ← et]; exact z7 j
  · have := z8 j
    rw [ek, n_c (by omega)] at this
    exact this
