/-! ===== both: days pass, as asked ===== -/
/-- what `changes` does: outside a script the row now is kept -/
def o_chg (S : ev_S) (a u : Nat) : ev_S := if S.1 a 23 = 0 then ev_up (ev_ur S (a + 4) (o_kp (S.1 (a + 4)) (S.1 (a + 1)) u)) a 6 (Int32.ofNat (o_ku u)) else S
theorem o_chg_r {S : ev_S} {a u q : Nat} (h : q ≠ a) (h4 : q ≠ a + 4) : (o_chg S a u).1 q = S.1 q := by
  unfold o_chg
  split
  · rw [m_r h, r_r h4]
  · rfl
theorem o_chg_k {S : ev_S} {a u j : Nat} (h : j ≠ 6) : (o_chg S a u).1 a j = S.1 a j := by
  unfold o_chg
  split
  · rw [m_k h, r_r (by omega)]
  · rfl
theorem x_advance {g : ev_G} {S : ev_S} {b n lim np L d u : Nat} {x : Int32} {r R : Nat → Int32} {ρ : List Nat} (hi : IG r n lim np L d ρ) (hL : L ≤ 80) (hd : d < 10000) (hg : q_gm S.1 (b + 11) r n L ρ) (hk : i_ok r n np L) (hh : q_his S.1 (b + 93) R u) {Q : ev_O → ev_S → Prop}
    (q1 : ¬ (1 ≤ x ∧ x ≤ 60) → Q (.inr 2) S) (q2 : ∀ D, x = Int32.ofNat D → 1 ≤ D → D ≤ 60 → 9999 < d + D → Q (.inr 1) S)
    (q3 : ∀ D, x = Int32.ofNat D → 1 ≤ D → D ≤ 60 → d + D ≤ 9999 → ∀ z, q_fr S z (b + 11) 412 → (∀ q, b + 47 ≤ q → q < b + 93 → z.1 q = S.1 q) → q_any z.1 (b + 11) (o_days n np L D d r) → q_his z.1 (b + 93) (o_kp R r u) (o_ku u) → Q (.inl (some (ev_i (o_days n np L D d r 8 - r 8)))) z) :
    ev_Cv g m_X9_advance 7 1 [ev_o 9 b, ev_i x] S Q := by
  have e2 := hi.1.2.2.2.2.2.2.1
  have e4 : S.1 (b + 11) 4 = Int32.ofNat d := by rw [hg.2.2.2.1, e2]
  have e99 : (9999 : Int32) = Int32.ofNat 9999 := rfl
  have e1 : (1 : Int32).toInt = 1 := rfl
  have e60 : (60 : Int32).toInt = 60 := rfl
  have fault : (¬ (1 ≤ x ∧ x ≤ 60) ∧ f_X2_daysFault S (b + 11) x = 3) ∨ ∃ D, x = Int32.ofNat D ∧ 1 ≤ D ∧ D ≤ 60 ∧ ((9999 < d + D ∧ f_X2_daysFault S (b + 11) x = 2) ∨ (d + D ≤ 9999 ∧ f_X2_daysFault S (b + 11) x = 0)) := by
    unfold f_X2_daysFault
    by_cases h1 : x < 1
    · left
      refine ⟨fun q => ?_, if_pos h1⟩
      have := q.1
      rw [z_le] at this
      rw [z_lt] at h1
      omega
    · rw [if_neg h1]
      by_cases h2 : x ≤ 60
      · right
        rw [if_pos h2]
        rw [z_lt, e1] at h1
        obtain ⟨D, hD, hD2⟩ := n_of (x := x) (by rw [z_le, show (0 : Int32).toInt = 0 from rfl]; omega)
        rw [z_le, e60] at h2
        rw [hD, n_i hD2] at h1 h2
        refine ⟨D, hD, by omega, by omega, ?_⟩
        rw [e4, hD, n_add, e99]
        have hle : Int32.ofNat (d + D) ≤ Int32.ofNat 9999 ↔ d + D ≤ 9999 := by rw [n_le (by omega) (by omega)]
        by_cases h3 : d + D ≤ 9999
        · right
          exact ⟨h3, if_pos (hle.mpr h3)⟩
        · left
          exact ⟨by omega, if_neg (fun q => h3 (hle.mp q))⟩
      · left
        exact ⟨fun q => h2 q.2, if_neg h2⟩
  refine sg_X9_advance_0 b x ?_
  rcases fault with ⟨h, f⟩ | ⟨D, hD, h1, h2, ⟨h, f⟩ | ⟨h, f⟩⟩
  · rw [f]
    exact j_neg (by decide) (j_neg (by decide) (j_pos rfl (q1 h)))
  · rw [f]
    exact j_neg (by decide) (j_pos rfl (q2 D hD h1 h2 h))
  · rw [f]
    refine j_neg (by decide) (j_neg (by decide) (j_neg (by decide) ?_))
    refine h_remember (a := b + 93) (b := b + 11) (by omega) hh ⟨n, lim, np, L, d, ρ, hi, hL, hd, hg, hk⟩ (fun z z1 z2 => ⟨rfl, ?_⟩)
    refine sg_X2_letDaysPass_0 (b + 11) _ ?_
    have := g_days (g := g) (e := b + 11) (D := D) D z r ρ d 0 (by omega) (Nat.le_refl _) (by omega) hi (q_gm_frame (M := S.1) (fun q h1 h2 => z1.2 q (by omega)) hg) (fun o S2 => ∃ v2_ : Int32, o = .inl (some (ev_i v2_)) ∧ Q (.inl (some (ev_i v2_))) S2) (fun y ρ' y1 y2 y3 => ⟨_, rfl, ?_⟩)
    · rw [Nat.sub_self, ← hD] at this
      exact this
    · rw [Int32.add_comm 0, Int32.add_zero]
      refine q3 D hD h1 h2 h y ⟨y1.1.trans z1.1, fun q hq => by rw [y1.2 q (by omega), z1.2 q (by omega)]⟩ (fun q h1 h2 => by rw [y1.2 q (by omega), z1.2 q (by omega)]) ⟨n, lim, np, L, d + D, ρ', y2, hL, by omega, y3, i_ok_days D d r ρ (by omega) hi hk⟩ ?_
      obtain ⟨a1, a2, w, a3, a4, a5, a6⟩ := z2
      have yy : ∀ q, b + 93 ≤ q → y.1 q = z.1 q := fun q hq => y1.2 q (by omega)
      refine ⟨by rw [yy _ (by omega)]; exact a1, a2, w, a3, by rw [yy _ (by omega)]; exact a4, fun i hi => ?_, fun i hi => ?_⟩
      · obtain ⟨s1, s2⟩ := a5 i hi
        exact ⟨by rw [yy _ (by omega)]; exact s1, by rw [yy _ (by omega)]; exact s2⟩
      · obtain ⟨r0, e0, q0⟩ := a6 i hi
        exact ⟨r0, e0, q_any_frame (M := z.1) (fun q h1 h2 => yy q (by omega)) q0⟩
