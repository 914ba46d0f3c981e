/-! ===== the fastest pass: the class ===== -/
theorem x_fast {g : ev_G} {S : ev_S} {b n lim np L d : Nat} {x : Int32} {r : Nat → Int32} {ρ : List Nat} (hi : IG r n lim np L d ρ) (hL : L ≤ 80) (hd : d < 10000) (hg : q_gm S.1 (b + 11) r n L ρ) {Q : ev_O → ev_S → Prop}
    (q1 : ¬ (∃ p, x = Int32.ofNat p ∧ p < 2) → Q (.inr 0) S)
    (q2 : ∀ p, x = Int32.ofNat p → p < 2 → ∀ v z, q_fr S z (b + 71) 17 → FP np (PP r np L d p) v → Q (.inl (some (ev_i v))) z) :
    ev_Cv g m_X9_fastestPass 5 1 [ev_o 9 b, ev_i x] S Q := by
  have e40 : (400 : Int32) = Int32.ofNat 400 := rfl
  have hnp := hi.1.2.2.2.1
  obtain ⟨-, e3, e13⟩ := q_gm_sz hi hg
  have e4 : S.1 (b + 11) 4 = Int32.ofNat d := by rw [hg.2.2.2.1]; exact hi.1.2.2.2.2.2.2.1
  refine sg_X9_fastestPass_0 b x ?_
  rw [t_pl]
  refine ⟨fun h => ?_, q1⟩
  obtain ⟨p, hx, hp⟩ := h
  have q2 := q2 p hx hp
  rw [hx]
  have hlen := nd_le L ρ (i_road_nd hi.2.1.2.2) (fun x hx => (hi.2.1.2.2.1 x hx).1)
  refine p_copy (a := b + 71) (b := b + 30) (by omega) (fun z zz => ⟨rfl, ?_⟩)
  have hz : q_pst z.1 (b + 71) r L ρ := p_shift (M := S.1) (a := b + 30) (by omega) (by omega) (fun y y' c k h1 h2 h3 h4 => by rw [h1, h2]; exact zz.2 c k h3 h4) hg.2.1
  have fz : q_fr S z (b + 71) 17 := zz.1
  have z13 : z.1 (b + 71) 13 = Int32.ofNat L := by rw [hz.1.1.2.2.1]; exact hi.1.2.2.2.2.1
  have z3 : z.1 (b + 31) 3 = Int32.ofNat np := by rw [fz.2 _ (by omega)]; exact e3
  rw [z13, z3]
  have hX0 := xps_pst hi.2.1 hp hL np (Nat.le_refl _)
  obtain ⟨xa, xb⟩ := xps_at (p := p) (L := L) (r := r) np
  -- the passes of a day
  have inner : ∀ (m : Nat) (k i : Nat) (z : ev_S) (σ : List Nat), i + k = np → m ≤ 400 → q_fr S z (b + 71) 17 → q_pst z.1 (b + 71) (xit np (L + np) d (xps p r L np) m) (L + np) σ → (∀ m' q', m' < m → q' < np → ¬ PP r np L d p m' q') → (∀ q', q' < i → ¬ PP r np L d p m q') →
      ((∀ q', q' < np → ¬ PP r np L d p m q') → ev_E g m_X9_fastestPass 5 0 80 [some (ev_o 9 b), none, some (ev_o 6 (b + 71)), some (ev_i (Int32.ofNat L)), some (ev_i (Int32.ofNat np)), some (ev_i (Int32.ofNat (m + 1))), none] [] z Q) →
      ev_E g m_X9_fastestPass 5 0 106 [some (ev_o 9 b), none, some (ev_o 6 (b + 71)), some (ev_i (Int32.ofNat L)), some (ev_i (Int32.ofNat np)), some (ev_i (Int32.ofNat m)), some (ev_i (Int32.ofNat i))] [] z Q := by
    intro m k
    induction k with
    | zero =>
      intro i z σ hik hm hf hg' hb hn hQ
      refine sg_X9_fastestPass_106 b _ _ _ _ (j_pos (by rw [n_le (by omega) (by omega)]; omega) ?_)
      rw [n_inc]
      exact hQ (fun q' hq' => hn q' (by omega))
    | succ k ih =>
      intro i z σ hik hm hf hg' hb hn hQ
      have hst : z.1 (b + 81) (L + i) = xit np (L + np) d (xps p r L np) m (1200 + 11 * (L + i) + 6) := (hg'.1.2.2 (L + i) (by omega)).2.2.1
      refine sg_X9_fastestPass_106 b _ _ _ _ (j_neg (by rw [n_le (by omega) (by omega)]; omega) ?_)
      rw [n_add, a_in (by omega) (by omega), hst, n_inc]
      refine ⟨fun h2 => q2 _ z hf (Or.inr ⟨i, m, rfl, by omega, hm, h2, hb, hn⟩), fun h2 => ih (i + 1) z σ (by omega) hm hf hg' hb (fun q' hq' => ?_) hQ⟩
      by_cases hqi : q' = i
      · rw [hqi]; exact h2
      · exact hn q' (by omega)
  have outer : ∀ (k m : Nat) (z : ev_S) (σ : List Nat), m + k = 400 → q_fr S z (b + 71) 17 → i_pst (xit np (L + np) d (xps p r L np) m) np (L + np) (d + m) σ → q_pst z.1 (b + 71) (xit np (L + np) d (xps p r L np) m) (L + np) σ → (∀ m' q', m' < m + 1 → q' < np → ¬ PP r np L d p m' q') →
      ev_E g m_X9_fastestPass 5 0 80 [some (ev_o 9 b), none, some (ev_o 6 (b + 71)), some (ev_i (Int32.ofNat L)), some (ev_i (Int32.ofNat np)), some (ev_i (Int32.ofNat (m + 1))), none] [] z Q := by
    intro k
    induction k with
    | zero =>
      intro m z σ hmk hf hi' hg' hb
      exact sg_X9_fastestPass_80 b _ _ _ (j_pos (by rw [e40, n_lt (by omega) (by omega)]; omega) (q2 _ z hf (Or.inl ⟨rfl, fun m' hm' q' hq' => hb m' q' (by omega) hq'⟩)))
    | succ k ih =>
      intro m z σ hmk hf hi' hg' hb
      refine sg_X9_fastestPass_80 b _ _ _ (j_neg (by rw [e40, n_lt (by omega) (by omega)]; omega) ?_)
      have z4 : z.1 (b + 11) 4 = Int32.ofNat d := by rw [hf.2 _ (by omega)]; exact e4
      rw [z4, n_add, ← Nat.add_assoc]
      refine p_dp (by omega) hi' hg' (fun v y σ' y1 y2 y3 => ⟨_, rfl, ?_⟩)
      have fy := q_fr_trans hf y1
      exact inner (m + 1) np 0 y σ' (by omega) (by omega) fy y3 hb (fun q' hq' => by omega) (fun hn => ih (m + 1) y σ' (by omega) fy y2 y3 (fun m' q' h1 h2 => by
        by_cases hm' : m' = m + 1
        · rw [hm']; exact hn q' h2
        · exact hb m' q' (by omega) h2))
  have adds : ∀ (k i : Nat) (z : ev_S), i + k = np → q_fr S z (b + 71) 17 → q_pst z.1 (b + 71) (xps p r L i) (L + i) ρ → ev_E g m_X9_fastestPass 5 0 46 [some (ev_o 9 b), some (ev_i (Int32.ofNat p)), some (ev_o 6 (b + 71)), some (ev_i (Int32.ofNat L)), some (ev_i (Int32.ofNat np)), some (ev_i (Int32.ofNat i)), none] [] z Q := by
    intro k
    induction k with
    | zero =>
      intro i z hik hf hg'
      have hin : i = np := by omega
      subst hin
      refine sg_X9_fastestPass_46 b _ _ _ _ (j_pos (by rw [n_le (by omega) (by omega)]; omega) ?_)
      exact outer 400 0 z ρ rfl hf hX0 hg' (fun m' q' h1 h2 => by
        have : m' = 0 := by omega
        subst this
        show ¬ xps p r L i (1200 + 11 * (L + q') + 6) = 2
        rw [(xb q' h2).2.2]
        decide)
    | succ k ih =>
      intro i z hik hf hg'
      refine sg_X9_fastestPass_46 b _ _ _ _ (j_neg (by rw [n_le (by omega) (by omega)]; omega) ?_)
      have z4 : z.1 (b + 11) 4 = xps p r L i 2 := by
        rw [hf.2 _ (by omega), hg.2.2.2.1]
        exact ((xps_at (p := p) (L := L) (r := r) i).1 2 (by omega) (by omega)).symm
      rw [z4, n_inc]
      refine p_add84 (x2 := 0) (x3 := 1) (x4 := 0) (x5 := 0) (xps_pst hi.2.1 hp hL i (by omega)).1 (by omega) hp (by omega) hg' (fun y y1 y2 y3 _ _ _ => ⟨_, rfl, ?_⟩)
      exact ih (i + 1) y (by omega) ⟨y1.trans hf.1, fun q hq => by rw [y2 q (by omega) (by omega) (by omega) (by omega) (by omega) (by omega) (by omega) (by omega) (by omega)]; exact hf.2 q hq⟩ y3
  exact adds np 0 z (by omega) fz hz
