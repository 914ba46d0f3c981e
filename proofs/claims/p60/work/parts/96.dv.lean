/-! ===== both: the day of an arrival ===== -/
/-- the reference while it looks ahead, a letter v that nobody reads -/
def m_bk (S : ev_S) (a : Nat) (r : Nat → Int32) (v : Int32) : ev_S := ev_up (m_in S a r) a 8 v
theorem m_bk_1 {S : ev_S} {a : Nat} {r : Nat → Int32} {v : Int32} : (m_bk S a r v).1 (a + 1) = r := by
  unfold m_bk
  rw [m_r (by omega)]
  exact m_in_1
theorem m_bk_8 {S : ev_S} {a : Nat} {r : Nat → Int32} {v : Int32} : (m_bk S a r v).1 a 8 = v := m_s _ _ _ _
theorem m_bk_in (S : ev_S) (a : Nat) (r r' : Nat → Int32) (v : Int32) : ev_ur (m_bk S a r v) (a + 1) r' = m_bk S a r' v := by
  unfold m_bk
  rw [m_u, m_u, r_c (by omega), m_in_in]
  have e : (m_in S a r).1 a = (m_in S a r').1 a := by
    unfold m_in
    rw [r_r (by omega), r_r (by omega), r_r (by omega), r_r (by omega)]
  rw [e]
theorem m_bk_self {S : ev_S} {a : Nat} {r : Nat → Int32} (h : S.1 a 8 = -1) : m_bk S a r (-1) = m_in S a r := m_in_up h
theorem x_arrDay {g : ev_G} {S : ev_S} {b n lim np L d : Nat} {x : Int32} {r : Nat → Int32} {ρ : List Nat} (hi : IG r n lim np L d ρ) (hL : L ≤ 80) (hd : d < 10000) (hg : q_gm S.1 (b + 11) r n L ρ) {Q : ev_O → ev_S → Prop}
    (q1 : ¬ (∃ l, x = Int32.ofNat l ∧ l < L) → Q (.inr 0) S)
    (q2 : ∀ l, x = Int32.ofNat l → l < L → ∀ z, q_fr S z (b + 71) 17 → Q (.inl (some (ev_i (o_pa l np L 400 d r)))) z) :
    ev_Cv g m_X9_arrivalDay 5 1 [ev_o 9 b, ev_i x] S Q := by
  have e40 : (400 : Int32) = Int32.ofNat 400 := rfl
  have e13 : S.1 (b + 30) 13 = Int32.ofNat L := (q_gm_sz hi hg).2.2
  have e4 : S.1 (b + 11) 4 = Int32.ofNat d := by rw [hg.2.2.2.1]; exact hi.1.2.2.2.2.2.2.1
  refine sg_X9_arrivalDay_0 b x ?_
  rw [t_le e13 (by omega)]
  refine ⟨fun h => ?_, q1⟩
  obtain ⟨l, hx, hl⟩ := h
  have q2 := q2 l hx hl
  obtain ⟨w1, w2, w3, w4, w5, w6⟩ := hg.2.1.1.2.2 l hl
  have w3' : S.1 (b + 40) l = r (1200 + 11 * l + 6) := w3
  rw [hx, a_in (by omega) (by omega), a_in (by omega) (by omega), w3']
  have key : ∀ (k i : Nat) (r : Nat → Int32) (d' : Nat) (ρ : List Nat) (z : ev_S), 1 ≤ i → i + k = 401 → d + i = d' + 1 → i_pst r np L d' ρ → q_pst z.1 (b + 71) r L ρ → ¬ r (1200 + 11 * l + 6) = 2 → q_fr S z (b + 71) 17 →
      (∀ z, q_fr S z (b + 71) 17 → Q (.inl (some (ev_i (o_pa l np L k d' r)))) z) →
      ev_E g m_X9_arrivalDay 5 0 62 [some (ev_o 9 b), some (ev_i (Int32.ofNat l)), some (ev_o 6 (b + 71)), some (ev_i (Int32.ofNat i))] [] z Q := by
    intro k
    induction k with
    | zero =>
      intro i r d' ρ z hi1 hik hdd hp hg h2 hf hq
      rw [o_pa_0 h2] at hq
      exact sg_X9_arrivalDay_62 b _ _ (j_pos (by rw [e40, n_lt (by omega) (by omega)]; omega) (hq z hf))
    | succ k ih =>
      intro i r d' ρ z hi1 hik hdd hp hg h2 hf hq
      rw [o_pa_s h2] at hq
      refine sg_X9_arrivalDay_62 b _ _ (j_neg (by rw [e40, n_lt (by omega) (by omega)]; omega) ?_)
      have z4 : z.1 (b + 11) 4 = Int32.ofNat d := by rw [hf.2 _ (by omega)]; exact e4
      rw [z4, n_add, hdd, n_inc]
      refine p_dp (by omega) hp hg (fun v y ρ' y1 y2 y3 => ⟨_, rfl, ?_⟩)
      have fy := q_fr_trans hf y1
      have y4 : y.1 (b + 11) 4 = Int32.ofNat d := by rw [fy.2 _ (by omega)]; exact e4
      have ys : y.1 (b + 81) l = o_dp r np L d' (1200 + 11 * l + 6) := (y3.1.2.2 l hl).2.2.1
      rw [a_in (by omega) (by omega), ys, y4, n_add, hdd]
      refine ⟨fun h3 => ?_, fun h3 => ?_⟩
      · rw [o_pa_2 h3, o_dp_came (by omega) hp hl h2 h3] at hq
        exact hq y fy
      · exact ih (i + 1) _ (d' + 1) ρ' y (by omega) (by omega) (by omega) y2 y3 h3 fy hq
  refine ⟨fun h2 => ?_, fun h2 => ?_⟩
  · have w6' : S.1 (b + 43) l = r (1200 + 11 * l + 10) := w6 h2
    rw [w6']
    rw [o_pa_2 h2] at q2
    exact q2 S ⟨rfl, fun _ _ => rfl⟩
  · have hlen := nd_le L ρ (i_road_nd hi.2.1.2.2) (fun x hx => (hi.2.1.2.2.1 x hx).1)
    refine p_copy (a := b + 71) (b := b + 30) (by omega) (fun z zz => ⟨rfl, ?_⟩)
    have hz : q_pst z.1 (b + 71) r L ρ := p_shift (M := S.1) (a := b + 30) (by omega) (by omega) (fun y y' c k h1 h2 h3 h4 => by rw [h1, h2]; exact zz.2 c k h3 h4) hg.2.1
    exact key 400 1 r d ρ z (by omega) rfl rfl hi.2.1 hz h2 zz.1 q2
