/-! ===== the class: a letter is taken in; the post ===== -/
theorem i_bd_same {r r' : Nat → Int32} {p n : Nat} (h8 : n ≤ 8) (h60 : o_mad r p ≤ 60) (hp : p < 2) (he : ∀ j, j = 12 + 7 * p ∨ (26 + 64 * p ≤ j ∧ j < 90 + 64 * p) ∨ (154 + 180 * p ≤ j ∧ j < 334 + 180 * p) → r' j = r j) (h : i_bd r p n) : i_bd r' p n := by
  obtain ⟨h1, h2⟩ := h
  have e : o_mad r' p = o_mad r p := by unfold o_mad; rw [he _ (by omega)]
  refine ⟨fun s hs => by rw [he _ (by omega)]; exact h1 s hs, ?_⟩
  rw [e]
  intro k hk
  rw [he _ (by omega), he _ (by omega), he _ (by omega)]
  exact h2 k hk
theorem q_dk_same {M : Nat → Nat → Int32} {e p n : Nat} {r r' : Nat → Int32} (h8 : n ≤ 8) (h60 : o_mad r p ≤ 60) (hp : p < 2) (he : ∀ j, j < 2 ∨ j = 9 ∨ j = 10 ∨ (12 + 7 * p ≤ j ∧ j < 19 + 7 * p) ∨ (26 + 64 * p ≤ j ∧ j < 90 + 64 * p) ∨ (154 + 180 * p ≤ j ∧ j < 334 + 180 * p) ∨ (514 + 124 * p ≤ j ∧ j < 638 + 124 * p) ∨ (762 ≤ j ∧ j < 1140) → r' j = r j) (h : q_dk M e r p n) : q_dk M e r' p n := by
  unfold q_dk at *
  have em : o_mad r' p = o_mad r p := by unfold o_mad; rw [he _ (by omega)]
  rw [em]
  obtain ⟨a0, a1, a2, a3, a4, a5, a6, a7, a8, a9⟩ := h
  refine ⟨a0, b_row h8 h60 (fun j hj => he j (by omega)) a1, fun k hk => by rw [he _ (by omega), he _ (by omega)]; exact a2 k hk, fun k hk => ?_, ?_, by rw [he _ (by omega)]; exact a5, by rw [he _ (by omega)]; exact a6, by rw [he _ (by omega)]; exact a7, by rw [he _ (by omega)]; exact a8, by rw [he _ (by omega)]; exact a9⟩
  · have hfl := o_fl_or p k
    rw [he _ (by omega), he _ (by omega), he _ (by omega), he _ (by omega), he _ (by omega)]
    exact a3 k hk
  · rw [a4]
    refine congrArg Int32.ofNat ?_
    exact cnt_congr 60 (fun i hi => by rw [he _ (by omega)])
/-- the class takes in a letter -/
theorem d_take {g : ev_G} {S : ev_S} {e p n lim k f t : Nat} {isp ex : Int32} {r : Nat → Int32} (hp : p < 2) (hk1 : 1 ≤ k) (hk : k ≤ 60) (hf : f < n * n) (ht : t < n * n) (hft : f ≠ t) (hd : i_dk r p n lim) (h : q_dk S.1 e r p n)
    (hi : (isp = 0 ∧ ex = -1) ∨ (isp = 1 ∧ i_pr r n k ∧ o_maker k = 1 - p ∧ r (762 + 6 * k + 2) = Int32.ofNat f ∧ r (762 + 6 * k + 3) = Int32.ofNat t ∧ ex = r (762 + 6 * k) * 64 + r (762 + 6 * k + 1)))
    {Q : ev_O → ev_S → Prop} (hQ : ∀ (v : Bool) (z : ev_S), q_fr S z e 9 → q_dk z.1 e (o_take r p k isp (Int32.ofNat f) (Int32.ofNat t)) p n → o_take r p k isp (Int32.ofNat f) (Int32.ofNat t) 5 = (if v = true then r 5 else r 5 + 1) → Q (.inl (some (ev_i (if v = true then 1 else 0)))) z) :
    ev_Cv g m_X1_takeIn 3 0 [ev_o 1 e, ev_i (Int32.ofNat k), ev_i (Int32.ofNat (f * 64 + t)), ev_i ex] S Q := by
  have hall := hd
  obtain ⟨h0, h8, h1, h60, ⟨m, hm, hml⟩, hs, hpr⟩ := hd
  have hn9 := sq_le h8
  have hmd : o_mad r p = m := by unfold o_mad; rw [hm, n_c (by omega)]
  have hh := h
  unfold q_dk at h
  rw [hmd] at h
  obtain ⟨a0, a1, a2, a3, a4, a5, a6, a7, a8, a9⟩ := h
  have e6 : S.1 (e + 1) 6 = Int32.ofNat m := by rw [a1.2.2.2.2.2.1]; exact hm
  refine sg_X1_takeIn_0 e _ _ _ ?_
  have dup : ∀ v, q_dk S.1 e (upd r 5 v) p n := fun v => q_dk_same h8 (by omega) hp (fun j hj => u_k (by omega)) hh
  have q0 : ¬ (if false = true then (1 : Int32) else 0) = 1 := by decide
  rcases hi with ⟨hi0, hex⟩ | ⟨hi1, hip, hmk, er2, er3, hex⟩
  · refine j_pos hex ?_
    have hine : ¬ isp = 1 := by rw [hi0]; decide
    unfold o_take at hQ
    rw [if_neg hine, hmd] at hQ
    rw [e6, a_in (show k < 61 by omega) (by omega), a2 k hk]
    by_cases hkm : k ≤ m
    · rw [if_pos hkm] at hQ
      exact j_pos (by rw [n_le (by omega) (by omega)]; exact hkm) (hQ false S ⟨rfl, fun q _ => rfl⟩ (dup _) (by rw [u_s]; rfl))
    · rw [if_neg hkm] at hQ
      refine j_neg (by rw [n_le (by omega) (by omega)]; exact hkm) ?_
      by_cases hst : r (514 + 124 * p + 2 * k) = -1
      · rw [if_pos hst] at hQ ⊢
        refine j_pos rfl ?_
        intro S1 h1 S2 h2
        rw [a_put (by omega) (by omega)] at h1
        subst h1
        rw [m_r (by omega)] at h2
        subst h2
        have em : o_mad (upd (upd r (514 + 124 * p + 2 * k) (Int32.ofNat f)) (514 + 124 * p + 2 * k + 1) (Int32.ofNat t)) p = m := by unfold o_mad; rw [u_k (by omega), u_k (by omega), hm, n_c (by omega)]
        refine hQ true _ ⟨rfl, fun q hq => by rw [m_r (by omega), m_r (by omega)]⟩ ?_ (by rw [u_k (by omega), u_k (by omega)]; rfl)
        unfold q_dk
        rw [em]
        have ef : ∀ j, j ≠ 514 + 124 * p + 2 * k → j ≠ 514 + 124 * p + 2 * k + 1 → upd (upd r (514 + 124 * p + 2 * k) (Int32.ofNat f)) (514 + 124 * p + 2 * k + 1) (Int32.ofNat t) j = r j := fun j h1 h2 => by rw [u_k h2, u_k h1]
        refine ⟨by rw [m_k (by omega), m_r (by omega)]; exact a0, ?_, fun j hj => ?_, fun j hj => ?_, ?_, ?_, ?_, ?_, ?_, ?_⟩
        · refine b_row h8 (by omega) (fun j hj => ef j (by omega) (by omega)) (b_frame (M := S.1) (fun q h1 h2 => by rw [m_r (by omega), m_r (by omega)]) a1)
        · rw [m_r (by omega)]
          by_cases hjk : j = k
          · subst hjk
            rw [m_s, u_s, u_k (by omega), u_s, if_neg (n_m1' (by omega)), n_mvn]
          · rw [m_k hjk, ef _ (by omega) (by omega), ef _ (by omega) (by omega)]
            exact a2 j hj
        · have hfl := o_fl_or p j
          rw [m_r (by omega), m_r (by omega), m_r (by omega), m_r (by omega), ef _ (by omega) (by omega), ef _ (by omega) (by omega), ef _ (by omega) (by omega), ef _ (by omega) (by omega), ef _ (by omega) (by omega)]
          exact a3 j hj
        · rw [m_s, a4, n_inc]
          refine congrArg Int32.ofNat ?_
          unfold o_nst
          have := cnt_one (l := k - 1) (f := fun i => decide (r (514 + 124 * p + 2 * (i + 1)) ≠ -1)) (h := fun i => decide (upd (upd r (514 + 124 * p + 2 * k) (Int32.ofNat f)) (514 + 124 * p + 2 * k + 1) (Int32.ofNat t) (514 + 124 * p + 2 * (i + 1)) ≠ -1)) (fun j hj => by rw [ef _ (by omega) (by omega)]) 60 (by omega)
          rw [show k - 1 + 1 = k by omega, u_k (by omega), u_s, hst] at this
          have hne : Int32.ofNat f ≠ -1 := n_m1' (by omega)
          simp only [ne_eq, not_true_eq_false, decide_false, hne, not_false_eq_true, decide_true, if_true] at this
          rw [Nat.add_zero] at this
          simp only [if_false, Nat.add_zero, Bool.false_eq_true] at this
          exact this.symm
        · rw [m_k (by omega), m_r (by omega), ef _ (by omega) (by omega)]; exact a5
        · rw [m_k (by omega), m_r (by omega), ef _ (by omega) (by omega)]; exact a6
        · rw [m_k (by omega), m_r (by omega), ef _ (by omega) (by omega)]; exact a7
        · rw [m_k (by omega), m_r (by omega), ef _ (by omega) (by omega)]; exact a8
        · rw [m_k (by omega), m_r (by omega), ef _ (by omega) (by omega)]; exact a9
      · rw [if_neg hst] at hQ ⊢
        rcases hs k (by omega) with h9 | ⟨f', t', hf', ht', -, ef', et'⟩
        · exact absurd h9 hst
        · rw [ef', et', n_mvn]
          exact j_neg (n_m1' (by omega)) (hQ false S ⟨rfl, fun q _ => rfl⟩ (dup _) (by rw [u_s]; rfl))
  · obtain ⟨ef, et, rf, rt, b1, b2, b3, b4, b5, b6, b7, b8, b9, b10, b11, b12⟩ := hip
    rw [b7, b8, n_mvn] at hex
    refine j_neg (by rw [hex]; exact n_m1' (by omega)) ?_
    have hfl : o_fl p k = 5 := by unfold o_fl; rw [if_neg (by omega)]
    obtain ⟨c1, c2⟩ := a3 k hk
    rw [hfl] at c1 c2
    unfold o_take at hQ
    rw [if_pos hi1] at hQ
    rw [a_in (show k < 61 by omega) (by omega)]
    rcases b12 with b12 | b12
    · rw [if_neg (by rw [b12]; decide)] at hQ
      refine j_pos (c1 b12).2 ?_
      intro S3 h3
      rw [a_put (by omega) (by omega), a_put (by omega) (by omega)] at h3
      subst h3
      have em : o_mad (upd r (762 + 6 * k + 5) 1) p = m := by unfold o_mad; rw [u_k (by omega), hm, n_c (by omega)]
      refine hQ true _ ⟨rfl, fun q hq => by rw [m_r (by omega), m_r (by omega)]⟩ ?_ (by rw [u_k (by omega)]; rfl)
      unfold q_dk
      rw [em]
      refine ⟨by rw [m_r (by omega), m_r (by omega)]; exact a0, ?_, fun j hj => ?_, fun j hj => ?_, ?_, ?_, ?_, ?_, ?_, ?_⟩
      · refine b_row h8 (by omega) (fun j hj => u_k (by omega)) (b_frame (M := S.1) (fun q h1 h2 => by rw [m_r (by omega), m_r (by omega)]) a1)
      · rw [m_r (by omega), m_r (by omega), u_k (by omega), u_k (by omega)]
        exact a2 j hj
      · have hfl2 := o_fl_or p j
        rw [m_r (show e + 7 ≠ e + 8 by omega)]
        by_cases hjk : j = k
        · subst hjk
          rw [hfl, u_s, m_s, m_s, u_k (by omega), u_k (by omega), u_k (by omega), u_k (by omega)]
          refine ⟨fun q => absurd q (by decide), fun _ => ⟨?_, ?_⟩⟩
          · rw [hex, b7, b8, n_mvn]
          · rw [er2, er3, n_mvn]
        · rw [m_k hjk, m_k hjk, m_r (by omega), u_k (by omega), u_k (by omega), u_k (by omega), u_k (by omega), u_k (by omega)]
          exact a3 j hj
      · rw [m_r (by omega), m_r (by omega), a4]
        refine congrArg Int32.ofNat ?_
        exact cnt_congr 60 (fun i hi => by rw [u_k (by omega)])
      · rw [m_r (by omega), m_r (by omega), u_k (by omega)]; exact a5
      · rw [m_r (by omega), m_r (by omega), u_k (by omega)]; exact a6
      · rw [m_r (by omega), m_r (by omega), u_k (by omega)]; exact a7
      · rw [m_r (by omega), m_r (by omega), u_k (by omega)]; exact a8
      · rw [m_r (by omega), m_r (by omega), u_k (by omega)]; exact a9
    · rw [if_pos b12] at hQ
      have c3 := (c2 (by rw [b12]; decide)).2
      rw [b9, b10, n_mvn] at c3
      exact j_neg (by rw [c3]; exact n_m1' (by omega)) (hQ false S ⟨rfl, fun q _ => rfl⟩ (dup _) (by rw [u_s]; rfl))
