/-! ===== a script: the reference does its commands ===== -/
def CD (S0 : ev_S) (a : Nat) (r : Nat → Int32) (k : Nat) (z : ev_S) : Prop := m_dz S0 z a ∧ z.1 (a + 1) = r ∧ o_any r ∧ z.1 a 22 = Int32.ofNat k ∧ k ≤ 40
def CGo (g : ev_G) (S0 : ev_S) (a D e : Nat) (off : Nat) (Q : ev_O → ev_S → Prop) (p : PX) : Prop := ∀ z, CD S0 a p.2.1 p.2.2 z → (p.1 = true → ev_E g m_X10_doesAll (D + 1) 0 2 [some (ev_o 10 a), none, some (ev_i (Int32.ofNat e)), some (ev_i (Int32.ofNat off)), none] [] z Q) ∧ (p.1 = false → Q (.inl (some (ev_i 0))) z)
def CIt (g : ev_G) (S0 : ev_S) (a D l : Nat) : Prop := ∀ (x : AT l) (off e k : Nat) (r : Nat → Int32) (z : ev_S) (Q : ev_O → ev_S → Prop), CD S0 a r k z → at_ok l x → r_code (S0.1 (a + 8)) (S0.1 (a + 9)) l off x → off + at_rz l x ≤ e → e ≤ 30 →
  CGo g S0 a D e (off + at_rz l x) Q (x_item l x r k) → ev_E g m_X10_doesAll (D + 1) 0 2 [some (ev_o 10 a), none, some (ev_i (Int32.ofNat e)), some (ev_i (Int32.ofNat off)), none] [] z Q
def CLs (g : ev_G) (S0 : ev_S) (a D l : Nat) : Prop := ∀ (L : List (AT l)) (off k : Nat) (r : Nat → Int32) (z : ev_S) (Q : ev_O → ev_S → Prop), CD S0 a r k z → (∀ y, y ∈ L → at_ok l y) → q_cds (at_rz l) (r_code (S0.1 (a + 8)) (S0.1 (a + 9)) l) off L → off + ls_sz (at_rz l) L ≤ 30 →
  (∀ y, CD S0 a (x_seq (x_item l) L r k).2.1 (x_seq (x_item l) L r k).2.2 y → Q (.inl (some (ev_i (if (x_seq (x_item l) L r k).1 = true then 1 else 0)))) y) →
  ev_E g m_X10_doesAll (D + 1) 0 2 [some (ev_o 10 a), none, some (ev_i (Int32.ofNat (off + ls_sz (at_rz l) L))), some (ev_i (Int32.ofNat off)), none] [] z Q
theorem at_rz_pos : ∀ (l : Nat) (x : AT l), 1 ≤ at_rz l x := by
  intro l x
  cases l with
  | zero => exact Nat.le_refl 1
  | succ l =>
    match (x : A0 ⊕ (Nat × List (AT l))) with
    | .inl c => exact Nat.le_refl 1
    | .inr q => exact (show 1 ≤ 1 + ls_sz (at_rz l) q.2 by omega)
theorem cls_of {g : ev_G} {S0 : ev_S} {a D l : Nat} (hD : 20 ≤ D) (h1 : CIt g S0 a D l) : CLs g S0 a D l := by
  intro L
  -- the end is fixed
  suffices h : ∀ (L : List (AT l)) (off e k : Nat) (r : Nat → Int32) (z : ev_S) (Q : ev_O → ev_S → Prop), CD S0 a r k z → (∀ y, y ∈ L → at_ok l y) → q_cds (at_rz l) (r_code (S0.1 (a + 8)) (S0.1 (a + 9)) l) off L → e = off + ls_sz (at_rz l) L → e ≤ 30 →
      (∀ y, CD S0 a (x_seq (x_item l) L r k).2.1 (x_seq (x_item l) L r k).2.2 y → Q (.inl (some (ev_i (if (x_seq (x_item l) L r k).1 = true then 1 else 0)))) y) →
      ev_E g m_X10_doesAll (D + 1) 0 2 [some (ev_o 10 a), none, some (ev_i (Int32.ofNat e)), some (ev_i (Int32.ofNat off)), none] [] z Q by
    intro off k r z Q hz ho hc he hQ
    exact h L off _ k r z Q hz ho hc rfl he hQ
  intro L
  induction L with
  | nil =>
    intro off e k r z Q hz ho hc he h30 hQ
    rw [ls_sz] at he
    refine sg_X10_doesAll_2 hD a _ _ (j_pos ?_ (hQ z hz))
    rw [n_le (by omega) (by omega)]
    omega
  | cons y L ih =>
    intro off e k r z Q hz ho hc he h30 hQ
    rw [ls_sz] at he
    refine h1 y off e k r z Q hz (ho y (List.mem_cons_self ..)) hc.1 (by omega) h30 (fun w hw => ⟨fun hb => ?_, fun hb => ?_⟩)
    · refine ih _ e _ _ w Q hw (fun y' hy' => ho y' (List.mem_cons_of_mem _ hy')) hc.2 (by omega) h30 (fun v hv => ?_)
      rw [x_seq, if_pos hb] at hQ
      exact hQ v hv
    · rw [x_seq, if_neg (by rw [hb]; decide), hb] at hQ
      exact hQ w hw
theorem c_one {g : ev_G} {S0 : ev_S} {a D off e k u : Nat} {c : A0} {r : Nat → Int32} {z : ev_S} {Q : ev_O → ev_S → Prop} (hD : 20 ≤ D) (hu : u ≤ 8) (h6 : S0.1 a 6 = Int32.ofNat u) (h8 : S0.1 a 8 = -1) (h23 : ¬ S0.1 a 23 = 0) (hz : CD S0 a r k z) (hok : a0_ok c) (hc : r_cmd (S0.1 (a + 8)) (S0.1 (a + 9)) off c) (he : off + 1 ≤ e) (h30 : e ≤ 30) (hQ : CGo g S0 a D e (off + 1) Q (x_0 c r k)) :
    ev_E g m_X10_doesAll (D + 1) 0 2 [some (ev_o 10 a), none, some (ev_i (Int32.ofNat e)), some (ev_i (Int32.ofNat off)), none] [] z Q := by
  obtain ⟨z1, z2, z3, z4, z5⟩ := hz
  have e40 : (40 : Int32) = Int32.ofNat 40 := rfl
  have e6 : (6 : Int32) = Int32.ofNat 6 := rfl
  have hk5 : c.1 ≤ 5 := hc.2.1
  have r8 : z.1 (a + 8) = S0.1 (a + 8) := z1.2.1 _ (by omega) (by omega)
  have r9 : z.1 (a + 9) = S0.1 (a + 9) := z1.2.1 _ (by omega) (by omega)
  refine sg_X10_doesAll_2 hD a _ _ (j_neg (by rw [n_le (by omega) (by omega)]; omega) ?_)
  rw [n_c (by omega), r8, hc.1]
  refine ⟨(n_vp (by omega) (by omega)).mpr trivial, j_neg (by rw [e6, n_eq (by omega) (by omega)]; omega) ?_⟩
  rw [z4, e40, n_eq (by omega) (by omega)]
  unfold x_0 at hQ
  by_cases h40 : k = 40
  · rw [if_pos (by omega)] at hQ
    exact j_pos h40 ((hQ z ⟨z1, z2, z3, z4, z5⟩).2 rfl)
  rw [if_neg (by omega)] at hQ
  refine j_neg h40 ?_
  rw [← z2] at z3
  refine c_does z3 hu (by rw [z1.2.2 _ (by omega) (by omega) (by omega) (by omega)]; exact h6) (by rw [z1.2.2 _ (by omega) (by omega) (by omega) (by omega)]; exact h8) (by rw [z1.2.2 _ (by omega) (by omega) (by omega) (by omega)]; exact h23) (by rw [r8, r9]; exact hc) (by omega) hok (fun r' hr ho y v y1 y22 y2 y3 => ⟨_, rfl, j_pos y3 (fun S2 e2 => ?_)⟩) (fun hr y y1 y22 y2 y3 => ⟨_, rfl, j_neg y3 ?_⟩)
  · rw [z2] at hr
    rw [hr] at hQ
    rw [y22, z4, n_inc] at e2
    rw [n_inc]
    refine (hQ S2 ⟨?_, ?_, ho, ?_, ?_⟩).1 rfl
    · rw [e2]; exact m_dz_22 (m_dz_tr z1 y1)
    · rw [e2, m_r (by omega)]; exact y2
    · rw [e2, m_s]
    · show k + 1 ≤ 40; omega
  · rw [z2] at hr
    rw [hr] at hQ
    exact (hQ y ⟨m_dz_tr z1 y1, y2.trans z2, by rw [← z2]; exact z3, by rw [y22]; exact z4, z5⟩).2 rfl
theorem cit_0 {g : ev_G} {S0 : ev_S} {a D u : Nat} (hD : 20 ≤ D) (hu : u ≤ 8) (h6 : S0.1 a 6 = Int32.ofNat u) (h8 : S0.1 a 8 = -1) (h23 : ¬ S0.1 a 23 = 0) : CIt g S0 a D 0 := by
  intro x off e k r z Q hz hok hc he h30 hQ
  exact c_one hD hu h6 h8 h23 hz hok hc he h30 hQ
theorem cit_s {g : ev_G} {S0 : ev_S} {a D l u : Nat} (hD : 20 ≤ D) (hu : u ≤ 8) (h6 : S0.1 a 6 = Int32.ofNat u) (h8 : S0.1 a 8 = -1) (h23 : ¬ S0.1 a 23 = 0) (hL : CLs g S0 a D l) : CIt g S0 a (D + 1) (l + 1) := by
  intro x off e k r z Q hz hok hc he h30 hQ
  match (x : A0 ⊕ (Nat × List (AT l))) with
  | .inl c => exact c_one (by omega) hu h6 h8 h23 hz hok hc he h30 hQ
  | .inr q =>
    obtain ⟨t, L⟩ := q
    have hrz : at_rz (l + 1) (Sum.inr (t, L) : A0 ⊕ (Nat × List (AT l))) = 1 + ls_sz (at_rz l) L := rfl
    rw [hrz] at he hQ
    have hx : x_item (l + 1) (Sum.inr (t, L) : A0 ⊕ (Nat × List (AT l))) r k = x_rep (x_seq (x_item l) L) t r k := rfl
    rw [hx] at hQ
    obtain ⟨c1, c2, c3, c4, c5⟩ := hc
    have c2' : S0.1 (a + 9) (6 * off) = Int32.ofNat t := c2
    have c3' : t ≤ 20 := c3
    have c4' : S0.1 (a + 9) (6 * off + 1) = Int32.ofNat (off + 1 + ls_sz (at_rz l) L) := c4
    have hok' : ∀ y, y ∈ L → at_ok l y := hok
    have r8 : ∀ z, m_dz S0 z a → z.1 (a + 8) = S0.1 (a + 8) := fun z h => h.2.1 _ (by omega) (by omega)
    have r9 : ∀ z, m_dz S0 z a → z.1 (a + 9) = S0.1 (a + 9) := fun z h => h.2.1 _ (by omega) (by omega)
    refine sg_X10_doesAll_2 (by omega) a _ _ (j_neg (by rw [n_le (by omega) (by omega)]; omega) ?_)
    rw [n_c (by omega), r8 z hz.1]
    refine ⟨(n_vp (by omega) (by omega)).mpr trivial, j_pos c1 ?_⟩
    have e0 : (0 : Int32) = Int32.ofNat 0 := rfl
    have e1 : (1 : Int32) = Int32.ofNat 1 := rfl
    have e6 : (6 : Int32) = Int32.ofNat 6 := rfl
    -- the rounds that are left
    have lp : ∀ (m i k : Nat) (r : Nat → Int32) (z : ev_S), i + m = t → CD S0 a r k z → CGo g S0 a (D + 1) e (off + (1 + ls_sz (at_rz l) L)) Q (x_rep (x_seq (x_item l) L) m r k) → ev_E g m_X10_doesAll (D + 1 + 1) 0 21 [some (ev_o 10 a), none, some (ev_i (Int32.ofNat e)), some (ev_i (Int32.ofNat off)), some (ev_i (Int32.ofNat i))] [] z Q := by
      intro m
      induction m with
      | zero =>
        intro i k r z hi hz hQ
        refine sg_X10_doesAll_21 (by omega) a _ _ _ ?_
        rw [e0, kn_ix, e1, kn_ix, n_c (by omega), n_c (by omega), r9 z hz.1]
        have c2'' : S0.1 (a + 9) (6 * off + 0) = Int32.ofNat t := c2'
        rw [c2'', c4', n_le (by omega) (by omega)]
        refine ⟨(n_vp (by omega) (by omega)).mpr trivial, j_pos (by omega) ⟨(n_vp (by omega) (by omega)).mpr trivial, ?_⟩⟩
        have := (hQ z hz).1 rfl
        rw [show off + (1 + ls_sz (at_rz l) L) = off + 1 + ls_sz (at_rz l) L by omega] at this
        exact this
      | succ m ih =>
        intro i k r z hi hz hQ
        rw [x_rep] at hQ
        refine sg_X10_doesAll_21 (by omega) a _ _ _ ?_
        rw [e0, kn_ix, e1, kn_ix, n_c (by omega), n_c (by omega), r9 z hz.1]
        have c2'' : S0.1 (a + 9) (6 * off + 0) = Int32.ofNat t := c2'
        rw [c2'', c4', n_le (by omega) (by omega), n_add, n_add]
        refine ⟨(n_vp (by omega) (by omega)).mpr trivial, j_neg (by omega) ⟨(n_vp (by omega) (by omega)).mpr trivial, ?_⟩⟩
        refine sg_X10_doesAll_0 hD a _ _ (hL L (off + 1) k r z _ hz hok' c5 (by omega) (fun y hy => ⟨_, rfl, fun hb => ?_, fun hb => ?_⟩))
        · rw [if_pos hb] at hQ
          exact ih (i + 1) _ _ y (by omega) hy hQ
        · rw [if_neg hb] at hQ
          exact (hQ y hy).2 (by simpa using hb)
    exact lp t 0 k r z (by omega) hz hQ
