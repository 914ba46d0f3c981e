/-! ===== the class: a game's picture; its day ===== -/
def q_con (M : Nat → Nat → Int32) (e : Nat) (r : Nat → Int32) (l : Nat) : Prop :=
  M (e + 25) l = r (1200 + 11 * l + 3) ∧ M (e + 26) l = r (1200 + 11 * l + 4) * 64 + r (1200 + 11 * l + 5) ∧
  M (e + 27) l = if r (1200 + 11 * l + 2) = 1 then r (762 + 6 * (r (1200 + 11 * l + 3)).toNatClampNeg) * 64 + r (762 + 6 * (r (1200 + 11 * l + 3)).toNatClampNeg + 1) else -1
def q_gm (M : Nat → Nat → Int32) (e : Nat) (r : Nat → Int32) (n L : Nat) (ρ : List Nat) : Prop :=
  (∀ p, p < 2 → q_dk M (e + 1 + 9 * p) r p n) ∧ q_pst M (e + 19) r L ρ ∧ (∀ l, l < L → q_con M e r l) ∧ M e 4 = r 2 ∧ M e 5 = r 5
def IG (r : Nat → Int32) (n lim np L d : Nat) (ρ : List Nat) : Prop := IR r n lim np L d (-1) ∧ i_pst r np L d ρ ∧ ∀ p, p < 2 → i_bd r p n
theorem IR_let {r : Nat → Int32} {n lim np L d l : Nat} (h : IR r n lim np L d (-1)) (hl : l < L) : ∃ k, i_let r n l (o_b r l) (o_q r l) k := by
  have hL := h.2.2.2.2.2.1
  have hnp := h.2.2.2.1
  obtain ⟨b, q, hb, hq, eb, eq, hk⟩ := h.2.2.2.2.2.2.2.2 l hl
  obtain ⟨k, hk⟩ := hk (n_m1' (by omega))
  have e1 : o_b r l = b := by unfold o_b; rw [eb, n_c (by omega)]
  have e2 : o_q r l = q := by unfold o_q; rw [eq, n_c (by omega)]
  exact ⟨k, by rw [e1, e2]; exact hk⟩
theorem i_dk_of {r : Nat → Int32} {n lim np L d p : Nat} {blk : Int32} (h : IR r n lim np L d blk) (hp : p < 2) : i_dk r p n lim := by
  have : p = 0 ∨ p = 1 := by omega
  rcases this with rfl | rfl
  · exact h.1
  · exact h.2.1
theorem i_dk_mad {r : Nat → Int32} {n lim p : Nat} (h : i_dk r p n lim) : o_mad r p ≤ 60 := by
  obtain ⟨h0, h8, h1, h60, ⟨m, hm, hml⟩, -⟩ := h
  unfold o_mad
  rw [hm, n_c (by omega)]
  omega
theorem IG_read {r : Nat → Int32} {n lim np L d l : Nat} {ρ : List Nat} (h : IG r n lim np L d ρ) (hl : l < L) : IG (o_read r n l) n lim np L d ρ := by
  obtain ⟨hi, hp, hb⟩ := h
  obtain ⟨k, hL⟩ := IR_let hi hl
  obtain ⟨f1, f2, f3, f4⟩ := rd_facts hL hi.1 hi.2.1
  refine ⟨(IR_read hi hL).1, i_pst_agP hp f1, fun p hp2 => ?_⟩
  have hob := hL.1
  have hdp := i_dk_of hi hp2
  by_cases hpb : p = o_b r l
  · refine i_bd_same hi.1.2.1 (i_dk_mad hdp) hp2 (fun j hj => f2 j (Or.inr (Or.inr ?_))) (hb p hp2)
    unfold o_own
    omega
  · have hpe : p = 1 - o_b r l := by omega
    have hLL := hL
    obtain ⟨-, hq, hk1, hk, eb, eq, ek, f, t, hf, ht, hft, ef, et, hi9⟩ := hLL
    have hn9 := sq_le hi.1.2.1
    rw [rd_eq hL, hpe, ef, et]
    have hi1 : r (1200 + 11 * l + 2) = 1 → i_pr r n k := fun h1 => by
      rcases hi9 with hi9 | hi9
      · rw [hi9] at h1; exact absurd h1 (by decide)
      · exact hi9.2.1
    rw [hpe] at hdp
    have htk := i_dk_take (p := 1 - o_b r l) (k := k) (f := f) (t := t) (isp := r (1200 + 11 * l + 2)) (by omega) hk1 hk hf ht hft hi1 hdp
    refine i_bd_all (by omega) 61 _ htk ?_
    refine i_bd_same hi.1.2.1 (i_dk_mad hdp) (by omega) (fun j hj => ?_) (hb (1 - o_b r l) (by omega))
    unfold o_take
    split
    · split <;> rw [u_k (by omega)]
    · split
      · rw [u_k (by omega)]
      · split
        · rw [u_k (by omega), u_k (by omega)]
        · rw [u_k (by omega)]
theorem q_pst_frame {M M' : Nat → Nat → Int32} {e L : Nat} {r : Nat → Int32} {ρ : List Nat} (f : ∀ q, e ≤ q → q < e + 17 → M' q = M q) (h : q_pst M e r L ρ) : q_pst M' e r L ρ := by
  obtain ⟨h1, h2, h3⟩ := h
  refine ⟨q_mid_frame h1 (fun q hq => f q (by omega) (by omega)) ⟨by rw [f e (by omega) (by omega)], by rw [f e (by omega) (by omega)], by rw [f e (by omega) (by omega)]⟩, ?_, ?_⟩
  · rw [f _ (by omega) (by omega)]; exact h2
  · rw [f _ (by omega) (by omega)]; exact h3
/-- the picture after one letter is read: only the reader's desk and the game's own row have changed -/
theorem q_gm_read {M M' : Nat → Nat → Int32} {e n lim np L d l : Nat} {r : Nat → Int32} {ρ : List Nat} (h : IG r n lim np L d ρ) (hl : l < L) (hg : q_gm M e r n L ρ)
    (f : ∀ q, e < q → q < e + 36 → (q < e + 1 + 9 * (1 - o_b r l) ∨ e + 1 + 9 * (1 - o_b r l) + 9 ≤ q) → M' q = M q) (hd : q_dk M' (e + 1 + 9 * (1 - o_b r l)) (o_read r n l) (1 - o_b r l) n) (h4 : M' e 4 = M e 4) (h5 : M' e 5 = o_read r n l 5) : q_gm M' e (o_read r n l) n L ρ := by
  obtain ⟨hi, hp, hb⟩ := h
  obtain ⟨k, hL⟩ := IR_let hi hl
  obtain ⟨f1, f2, f3, f4⟩ := rd_facts hL hi.1 hi.2.1
  obtain ⟨g1, g2, g3, g4, g5⟩ := hg
  have hob := hL.1
  refine ⟨fun p hp2 => ?_, ?_, fun l' hl' => ?_, ?_, h5⟩
  · by_cases hpb : p = o_b r l
    · subst hpb
      refine q_dk_same2 hi.1.2.1 (i_dk_mad (i_dk_of hi hp2)) hp2 (fun j hj => f2 j ?_) f3 (q_dk_frame (M := M) (fun q h1 h2 => f q (by omega) (by omega) (by omega)) (g1 _ hp2))
      rcases hj with hj | hj | hj | hj
      · exact Or.inl (by omega)
      · exact Or.inr (Or.inl (by omega))
      · exact Or.inr (Or.inl (by omega))
      · exact Or.inr (Or.inr hj)
    · have hpe : p = 1 - o_b r l := by omega
      rw [hpe]
      exact hd
  · have := q_pst_frame (M := M) (M' := M') (fun q h1 h2 => f q (by omega) (by omega) (by omega)) g2
    exact ⟨q_mid_agP this.1 f1, this.2.1, this.2.2⟩
  · obtain ⟨c1, c2, c3⟩ := g3 l' hl'
    obtain ⟨k', hL'⟩ := IR_let hi hl'
    obtain ⟨-, -, -, hk', -, -, ek', -⟩ := hL'
    unfold q_con
    rw [f _ (by omega) (by omega) (by omega), f (e + 26) (by omega) (by omega) (by omega), f (e + 27) (by omega) (by omega) (by omega), f1 (1200 + 11 * l' + 3) (by omega), f1 (1200 + 11 * l' + 4) (by omega), f1 (1200 + 11 * l' + 5) (by omega), f1 (1200 + 11 * l' + 2) (by omega)]
    refine ⟨c1, c2, ?_⟩
    rw [c3, ek', n_c (by omega)]
    have e0 : o_read r n l (762 + 6 * k') = r (762 + 6 * k') := f3 k' 0 (by omega) (Or.inl (by decide))
    rw [e0, f3 k' 1 (by omega) (Or.inl (by decide))]
  · rw [h4, g4, f2 2 (by omega)]
theorem a_desk {e p : Nat} (hp : p < 2) : a_X2_deskOf e (Int32.ofNat p) = e + 1 + 9 * p := by
  have : p = 0 ∨ p = 1 := by omega
  rcases this with rfl | rfl <;> rfl
theorem g_reads {g : ev_G} {e n lim np L d N : Nat} {ρ : List Nat} : ∀ (α : List Nat) (S : ev_S) (r : Nat → Int32) (i : Nat), IG r n lim np L d ρ → q_gm S.1 e r n L ρ → (∀ l, l ∈ α → l < L) → q_arr (S.1 (e + 34)) i α → i + α.length = N → N ≤ 84 → ∀ Q : ev_O → ev_S → Prop,
    (∀ z, q_fr S z e 36 → IG (rds n (-1) α r) n lim np L d ρ → q_gm z.1 e (rds n (-1) α r) n L ρ → Q (.inl (some (ev_i (Int32.ofNat N)))) z) →
    ev_E g m_X2_passDay 5 0 24 [some (ev_o 2 e), some (ev_i (Int32.ofNat N)), some (ev_i (Int32.ofNat i)), none, none] [] S Q := by
  intro α
  induction α with
  | nil =>
    intro S r i hi hg _ _ hN hle Q hQ
    rw [List.length_nil] at hN
    rw [rds] at hQ
    exact sg_X2_passDay_24 e _ _ (j_pos (by rw [n_le (by omega) (by omega)]; omega) (hQ S ⟨rfl, fun q _ => rfl⟩ hi hg))
  | cons l α ih =>
    intro S r i hi hg hin ha hN hle Q hQ
    rw [List.length_cons] at hN
    have hl := hin l List.mem_cons_self
    obtain ⟨k, hL⟩ := IR_let hi.1 hl
    have hLL := hL
    obtain ⟨hb, hq, hk1, hk, eb, eq, ek, f, t, hf, ht, hft, ef, et, hi9⟩ := hLL
    have hL81 := hi.1.2.2.2.2.2.1
    have hn8 := hi.1.1.2.1
    have hnb : ¬ Int32.ofNat l = -1 := n_m1' (by omega)
    rw [rds, if_neg hnb] at hQ
    obtain ⟨g1, g2, g3, g4, g5⟩ := id hg
    obtain ⟨c1, c2, c3⟩ := g3 l hl
    have hw : S.1 (e + 24) l = Int32.ofNat (o_b r l) := by
      have := (g2.1.2.2 l hl).1
      rw [eb] at this
      exact this
    have hp1 : 1 - o_b r l < 2 := by omega
    obtain ⟨f1, f2, f3, f4⟩ := rd_facts hL hi.1.1 hi.1.2.1
    have hR := IG_read hi hl
    have hgr := fun (z : ev_S) => q_gm_read (M' := z.1) hi hl hg
    have hmv := ih
    refine sg_X2_passDay_24 e _ _ (j_neg (by rw [n_le (by omega) (by omega)]; omega) ?_)
    rw [a_in (by omega) (by omega), ha.1, a_in (by omega) (by omega), a_in (by omega) (by omega), a_in (by omega) (by omega), a_in (by omega) (by omega), hw, n_1b hb, a_desk hp1, c1, c2, ek, ef, et, n_mvn, n_inc]
    have rdq := rd_eq hL
    rw [ef, et] at rdq f4
    have go : ∀ z : ev_S, q_fr S z e 36 → (∀ q, e < q → q < e + 36 → (q < e + 1 + 9 * (1 - o_b r l) ∨ e + 1 + 9 * (1 - o_b r l) + 9 ≤ q) → z.1 q = S.1 q) → q_dk z.1 (e + 1 + 9 * (1 - o_b r l)) (o_read r n l) (1 - o_b r l) n → z.1 e 4 = S.1 e 4 → z.1 e 5 = o_read r n l 5 →
        ev_E g m_X2_passDay 5 0 24 [some (ev_o 2 e), some (ev_i (Int32.ofNat N)), some (ev_i (Int32.ofNat (i + 1))), none, none] [] z Q := by
      intro z z1 z2 z3 z4 z5
      refine ih z (o_read r n l) (i + 1) hR (hgr z z2 z3 z4 z5) (fun l' hl' => hin l' (List.mem_cons_of_mem _ hl')) ?_ (by omega) hle Q (fun y y1 y2 y3 => hQ y (q_fr_trans z1 y1) y2 y3)
      rw [z2 (e + 34) (by omega) (by omega) (by omega)]
      exact ha.2
    have hdp := i_dk_of hi.1 hp1
    have hi1 : r (1200 + 11 * l + 2) = 1 → i_pr r n k := fun h1 => by
      rcases hi9 with hi9 | hi9
      · rw [hi9] at h1; exact absurd h1 (by decide)
      · exact hi9.2.1
    have htk := i_dk_take (p := 1 - o_b r l) (k := k) (f := f) (t := t) (isp := r (1200 + 11 * l + 2)) hp1 hk1 hk hf ht hft hi1 hdp
    have hbk : i_bd (o_take r (1 - o_b r l) k (r (1200 + 11 * l + 2)) (Int32.ofNat f) (Int32.ofNat t)) (1 - o_b r l) n := by
      have hn9 := sq_le hn8
      refine i_bd_same hn8 (i_dk_mad hdp) hp1 (fun j hj => ?_) (hi.2.2 _ hp1)
      unfold o_take
      split
      · split <;> rw [u_k (by omega)]
      · split
        · rw [u_k (by omega)]
        · split
          · rw [u_k (by omega), u_k (by omega)]
          · rw [u_k (by omega)]
    have et2 : o_take r (1 - o_b r l) k (r (1200 + 11 * l + 2)) (Int32.ofNat f) (Int32.ofNat t) 2 = r 2 := o_take_at hk (fun hh => by unfold o_own at hh; omega) (by omega) (by omega)
    refine d_take (n := n) (lim := lim) (isp := r (1200 + 11 * l + 2)) (r := r) hp1 hk1 hk hf ht hft hdp (g1 _ hp1) ?_ ?_
    · rcases hi9 with hi9 | hi9
      · left
        refine ⟨hi9, ?_⟩
        rw [c3, hi9, if_neg (by decide)]
      · right
        refine ⟨hi9.1, hi9.2.1, by rw [hi9.2.2.1]; omega, hi9.2.2.2.1, hi9.2.2.2.2, ?_⟩
        rw [c3, hi9.1, if_pos rfl, ek, n_c (by omega)]
    · intro v z z1 z2 z3
      have z0 : z.1 e = S.1 e := z1.2 e (by omega)
      have set : ∀ y : ev_S, q_fr S y e 36 → (∀ q, e < q → q < e + 36 → (q < e + 1 + 9 * (1 - o_b r l) ∨ e + 1 + 9 * (1 - o_b r l) + 9 ≤ q) → y.1 q = S.1 q) → q_dk y.1 (e + 1 + 9 * (1 - o_b r l)) (o_take r (1 - o_b r l) k (r (1200 + 11 * l + 2)) (Int32.ofNat f) (Int32.ofNat t)) (1 - o_b r l) n → y.1 e 4 = S.1 e 4 → y.1 e 5 = o_read r n l 5 →
          ev_Cv g m_X1_settle 4 0 [ev_o 1 (e + 1 + 9 * (1 - o_b r l)), ev_i (z.1 e 4)] y (fun o S2 => o = .inl none ∧ ev_E g m_X2_passDay 5 0 24 [some (ev_o 2 e), some (ev_i (Int32.ofNat N)), some (ev_i (Int32.ofNat (i + 1))), none, none] [] S2 Q) := by
        intro y y1 y2 y3 y4 y5
        have := d_settle (g := g) (S := y) hp1 htk hbk y3 (Q := fun o S2 => o = .inl none ∧ ev_E g m_X2_passDay 5 0 24 [some (ev_o 2 e), some (ev_i (Int32.ofNat N)), some (ev_i (Int32.ofNat (i + 1))), none, none] [] S2 Q) (fun x x1 x2 => ⟨rfl, ?_⟩)
        · rw [et2, ← g4, ← z0] at this
          exact this
        · rw [← rdq] at x2
          refine go x ⟨x1.1.trans y1.1, fun q hq => (x1.2 q (by omega)).trans (y1.2 q hq)⟩ (fun q h1 h2 h3 => (x1.2 q h3).trans (y2 q h1 h2 h3)) x2 ?_ ?_
          · rw [x1.2 e (by omega), y4]
          · rw [x1.2 e (by omega), y5]
      refine ⟨v, rfl, fun hv => ?_, fun hv => ?_⟩
      · rw [if_pos hv] at z3
        refine set z ⟨z1.1, fun q hq => z1.2 q (by omega)⟩ (fun q h1 h2 h3 => z1.2 q h3) z2 (by rw [z0]) ?_
        rw [f4, z3, z0, g5]
      · rw [if_neg hv] at z3
        intro S3 h3
        refine set S3 ⟨by rw [h3]; exact z1.1, fun q hq => by rw [h3, m_r (by omega), z1.2 q (by omega)]⟩ (fun q h1 h2 h4 => by rw [h3, m_r (by omega), z1.2 q h4]) (q_dk_frame (M := z.1) (fun q h1 h2 => by rw [h3, m_r (by omega)]) z2) (by rw [h3, m_k (by omega), z0]) ?_
        rw [f4, z3, h3, m_s, z0, g5]
