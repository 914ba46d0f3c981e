/-! ===== both: a move, as asked: the class ===== -/
theorem a_desk0 (e : Nat) : a_X2_deskOf e 0 = e + 1 := if_pos rfl
theorem t_sq {S : ev_S} {e n : Nat} {x : Int32} (h : S.1 (e + 1 + 1) 4 = Int32.ofNat n) (h8 : n ≤ 8) : t_X2_isSquare S e x = true ↔ ∃ f, x = Int32.ofNat f ∧ f < n * n := by
  have hn := sq_le h8
  unfold t_X2_isSquare
  rw [a_desk0, h, n_mul]
  constructor
  · intro hh
    by_cases h1 : x < 0
    · rw [if_pos h1] at hh; exact absurd hh (by decide)
    · rw [if_neg h1] at hh
      by_cases h2 : Int32.ofNat (n * n) ≤ x
      · rw [if_pos h2] at hh; exact absurd hh (by decide)
      · have e0 : (0 : Int32).toInt = 0 := rfl
        rw [z_lt, e0] at h1
        obtain ⟨q, hq, hq2⟩ := n_of (x := x) (by rw [z_le, e0]; omega)
        rw [hq, n_le (by omega) hq2] at h2
        exact ⟨q, hq, by omega⟩
  · rintro ⟨q, hq, hq2⟩
    rw [hq, if_neg (by rw [n_neg (by omega)]; exact id), if_neg (by rw [n_le (by omega) (by omega)]; omega)]
theorem q_gm_sz {M : Nat → Nat → Int32} {e n lim np L d : Nat} {r : Nat → Int32} {ρ : List Nat} (hi : IG r n lim np L d ρ) (hg : q_gm M e r n L ρ) : M (e + 1 + 1) 4 = Int32.ofNat n ∧ M (e + 20) 3 = Int32.ofNat np ∧ M (e + 19) 13 = Int32.ofNat L := by
  refine ⟨?_, ?_, ?_⟩
  · have h := (hg.1 0 (by omega)).2.1.2.2.2.1
    rw [show e + 1 + 9 * 0 + 1 = e + 1 + 1 by omega] at h
    rw [h]
    exact hi.1.1.1
  · have h := hg.2.1.1.1.1
    rw [hi.1.2.2.1] at h
    exact h
  · rw [hg.2.1.1.1.2.2.1]
    exact hi.1.2.2.2.2.1
theorem n_mad {r : Nat → Int32} {n lim p : Nat} (hd : i_dk r p n lim) : r (12 + 7 * p) = Int32.ofNat (o_mad r p) ∧ o_mad r p ≤ lim ∧ lim ≤ 60 := by
  obtain ⟨-, -, h1, h60, ⟨m, hm, hml⟩, -⟩ := hd
  have hmd : o_mad r p = m := by unfold o_mad; rw [hm, n_c (by omega)]
  rw [hmd]
  exact ⟨hm, hml, h60⟩
theorem b_moveFault {g : ev_G} {S : ev_S} {e n lim np L d : Nat} {x0 x1 x2 x3 : Int32} {r : Nat → Int32} {ρ : List Nat} (hi : IG r n lim np L d ρ) (hL : L ≤ 80) (h4 : 4 ≤ n) (hg : q_gm S.1 e r n L ρ) {Q : ev_O → ev_S → Prop}
    (q1 : ¬ ((∃ p, x0 = Int32.ofNat p ∧ p < 2) ∧ (∃ f, x1 = Int32.ofNat f ∧ f < n * n) ∧ (∃ t, x2 = Int32.ofNat t ∧ t < n * n) ∧ ∃ q, x3 = Int32.ofNat q ∧ q < np) → Q (.inl (some (ev_i 1))) S)
    (q2 : ∀ p f t q, x0 = Int32.ofNat p → p < 2 → x1 = Int32.ofNat f → f < n * n → x2 = Int32.ofNat t → t < n * n → x3 = Int32.ofNat q → q < np → ¬ (o_turn r p n (o_mad r p) = true ∧ L < 80) → Q (.inl (some (ev_i 2))) S)
    (q3 : ∀ p f t q, x0 = Int32.ofNat p → p < 2 → x1 = Int32.ofNat f → f < n * n → x2 = Int32.ofNat t → t < n * n → x3 = Int32.ofNat q → q < np → (o_turn r p n (o_mad r p) = true ∧ L < 80) → ¬ o_moves r p n (Int32.ofNat p) f t = true → Q (.inl (some (ev_i 3))) S)
    (q4 : ∀ p f t q, x0 = Int32.ofNat p → p < 2 → x1 = Int32.ofNat f → f < n * n → x2 = Int32.ofNat t → t < n * n → x3 = Int32.ofNat q → q < np → (o_turn r p n (o_mad r p) = true ∧ L < 80) → o_moves r p n (Int32.ofNat p) f t = true → Q (.inl (some (ev_i 0))) S) :
    ev_Cv g m_X2_moveFault 5 0 [ev_o 2 e, ev_i x0, ev_i x1, ev_i x2, ev_i x3] S Q := by
  have h8 := hi.1.1.2.1
  have hn9 := sq_le h8
  have hnp := hi.1.2.2.2.1
  obtain ⟨es, e3, e13⟩ := q_gm_sz hi hg
  have e80 : (80 : Int32) = Int32.ofNat 80 := rfl
  refine sg_X2_moveFault_0 e x0 x1 x2 x3 ?_
  rw [t_pl, t_sq es h8, t_sq es h8, t_ex e3 (by omega)]
  refine ⟨fun y0 => ⟨fun y1 => ⟨fun y2 => ⟨fun y3 => ?_, fun y3 => q1 (fun q => y3 q.2.2.2)⟩, fun y2 => q1 (fun q => y2 q.2.2.1)⟩, fun y1 => q1 (fun q => y1 q.2.1)⟩, fun y0 => q1 (fun q => y0 q.1)⟩
  obtain ⟨p, hp, hp2⟩ := y0
  obtain ⟨f, hf, hf2⟩ := y1
  obtain ⟨t, ht, ht2⟩ := y2
  obtain ⟨q, hq, hq2⟩ := y3
  have q2 := q2 p f t q hp hp2 hf hf2 ht ht2 hq hq2
  have q3 := q3 p f t q hp hp2 hf hf2 ht ht2 hq hq2
  have q4 := q4 p f t q hp hp2 hf hf2 ht ht2 hq hq2
  obtain ⟨hm, hml, h60⟩ := n_mad (i_dk_of hi.1 hp2)
  have hdk := hg.1 p hp2
  have eo : S.1 (e + 1 + 9 * p + 2) f = r (26 + 64 * p + f) := hdk.2.1.1 f (by omega)
  rw [hp, hf, ht, a_desk hp2, t_may hp2 h8 hm (by omega) hdk, e13, e80, n_lt (by omega) (by omega), a_in (by omega) (by omega), eo]
  refine ⟨fun hT => ⟨fun h9 => ⟨fun h10 => ?_, fun h10 => q3 ⟨hT, h9⟩ (fun hh => h10 (o_moves_f hh).1)⟩, fun h9 => q2 (fun q => h9 q.2)⟩, fun hT => q2 (fun q => hT q.1)⟩
  refine b_reach (b := e + 1 + 9 * p + 1) h4 h8 (by omega) (by omega) hi.1.1.1 hdk.2.1 _ ⟨_, rfl, ?_⟩
  rw [h10]
  exact ⟨q4 ⟨hT, h9⟩, q3 ⟨hT, h9⟩⟩
theorem i_ok_move {r : Nat → Int32} {n lim np L d p m f t q : Nat} {ρ : List Nat} (hp : p < 2) (hm : r (12 + 7 * p) = Int32.ofNat m) (hml : m < lim) (hf : f < n * n) (ht : t < n * n) (hft : f ≠ t) (hq : q < np) (hL : L < 80) (h : IG r n lim np L d ρ) (hk : i_ok r n np L) : i_ok (o_move r n p m f t q L) n np (L + 1) := by
  have hd := i_dk_of h.1 hp
  have h60 := hd.2.2.2.1
  have hn9 := sq_le hd.2.1
  have hA := IG_apply hp hm hml hf ht hft h
  have hP := IG_post (q := q) (k := m + 1) (isp := 0) hA hL hp hq (by omega) (by omega) hf ht hft (Or.inl rfl)
  unfold o_move
  refine i_ok_same ?_ (fun j hj => (o_all_own hp 61 _ (i_dk_of hP.1 hp)).2 j (fun hh => by unfold o_own at hh; omega))
  exact i_ok_post (i_ok_same hk (fun j hj => o_apply_own (by omega) (by omega) (by omega) (fun hh => by unfold o_own at hh; omega)))
theorem o_turn_lt {r : Nat → Int32} {n lim p m : Nat} (hp : p < 2) (hd : i_dk r p n lim) (hm : r (12 + 7 * p) = Int32.ofNat m) (hm60 : m ≤ lim) (h : ¬ o_over r p n = true) : m < lim := by
  have h60 := hd.2.2.2.1
  have := o_over_not h
  rw [hm, hd.2.2.1, Ne, n_eq (by omega) (by omega)] at this
  omega
theorem o_turn_t {r : Nat → Int32} {p n m : Nat} (h : o_turn r p n m = true) : ¬ o_over r p n = true ∧ o_maker (m + 1) = p := by
  unfold o_turn at h
  rw [Bool.and_eq_true, decide_eq_true_eq] at h
  refine ⟨fun hh => ?_, h.2⟩
  have := h.1
  rw [hh] at this
  exact absurd this (by decide)
theorem x_move {g : ev_G} {S : ev_S} {b n lim np L d u : Nat} {x0 x1 x2 x3 : Int32} {r R : Nat → Int32} {ρ : List Nat} (hi : IG r n lim np L d ρ) (hL : L ≤ 80) (hd : d < 10000) (hg : q_gm S.1 (b + 11) r n L ρ) (hk : i_ok r n np L) (hh : q_his S.1 (b + 93) R u) {Q : ev_O → ev_S → Prop}
    (q1 : ¬ ((∃ p, x0 = Int32.ofNat p ∧ p < 2) ∧ (∃ f, x1 = Int32.ofNat f ∧ f < n * n) ∧ (∃ t, x2 = Int32.ofNat t ∧ t < n * n) ∧ ∃ q, x3 = Int32.ofNat q ∧ q < np) → Q (.inr 0) S)
    (q2 : ∀ p f t q, x0 = Int32.ofNat p → p < 2 → x1 = Int32.ofNat f → f < n * n → x2 = Int32.ofNat t → t < n * n → x3 = Int32.ofNat q → q < np → ¬ (o_turn r p n (o_mad r p) = true ∧ L < 80) → Q (.inr 1) S)
    (q3 : ∀ p f t q, x0 = Int32.ofNat p → p < 2 → x1 = Int32.ofNat f → f < n * n → x2 = Int32.ofNat t → t < n * n → x3 = Int32.ofNat q → q < np → (o_turn r p n (o_mad r p) = true ∧ L < 80) → ¬ o_moves r p n (Int32.ofNat p) f t = true → Q (.inr 2) S)
    (q4 : ∀ p f t q, x0 = Int32.ofNat p → p < 2 → x1 = Int32.ofNat f → f < n * n → x2 = Int32.ofNat t → t < n * n → x3 = Int32.ofNat q → q < np → (o_turn r p n (o_mad r p) = true ∧ L < 80) → o_moves r p n (Int32.ofNat p) f t = true → ∀ z, q_fr S z (b + 11) 412 → (∀ q, b + 47 ≤ q → q < b + 93 → z.1 q = S.1 q) → q_any z.1 (b + 11) (o_move r n p (o_mad r p) f t q L) → q_his z.1 (b + 93) (o_kp R r u) (o_ku u) → Q (.inl (some (ev_i (Int32.ofNat (o_mad r p + 1))))) z) :
    ev_Cv g m_X9_move 6 1 [ev_o 9 b, ev_i x0, ev_i x1, ev_i x2, ev_i x3] S Q := by
  have h4 := hk.1
  refine sg_X9_move_0 b x0 x1 x2 x3 ?_
  refine b_moveFault (e := b + 11) hi hL h4 hg (fun h => ⟨_, rfl, j_pos rfl (q1 h)⟩) (fun p f t q h0 h0' h1 h1' h2 h2' h3 h3' h => ⟨_, rfl, j_neg (by decide) (j_pos rfl (q2 p f t q h0 h0' h1 h1' h2 h2' h3 h3' h))⟩) (fun p f t q h0 h0' h1 h1' h2 h2' h3 h3' h h' => ⟨_, rfl, j_neg (by decide) (j_neg (by decide) (j_pos rfl (q3 p f t q h0 h0' h1 h1' h2 h2' h3 h3' h h')))⟩) (fun p f t q h0 h0' h1 h1' h2 h2' h3 h3' h h' => ⟨_, rfl, j_neg (by decide) (j_neg (by decide) (j_neg (by decide) ?_))⟩)
  have q4 := q4 p f t q h0 h0' h1 h1' h2 h2' h3 h3' h h'
  obtain ⟨hT, hL8⟩ := h
  obtain ⟨ho, hmk⟩ := o_turn_t hT
  obtain ⟨hm, hml, h60⟩ := n_mad (i_dk_of hi.1 h0')
  have hlt := o_turn_lt h0' (i_dk_of hi.1 h0') hm hml ho
  have hft := (o_moves_f h').2
  refine h_remember (a := b + 93) (b := b + 11) (by omega) hh ⟨n, lim, np, L, d, ρ, hi, hL, hd, hg, hk⟩ (fun z z1 z2 => ⟨rfl, ?_⟩)
  have hgz := q_gm_frame (M := S.1) (M' := z.1) (fun q h1 h2 => z1.2 q (by omega)) hg
  rw [h0, h1, h2, h3]
  refine g_move h0' hm hlt h1' h2' hft h3' hL8 hmk hi hgz (fun w w1 w2 => ⟨_, rfl, ?_⟩)
  exact q4 w ⟨w1.1.trans z1.1, fun y hy => by rw [w1.2 y (by omega), z1.2 y (by omega)]⟩ (fun y h1 h2 => by rw [w1.2 y (by omega), z1.2 y (by omega)]) ⟨n, lim, np, L + 1, d, ρ, IG_move h0' hm hlt h1' h2' hft h3' hL8 hi, by omega, hd, w2, i_ok_move h0' hm hlt h1' h2' hft h3' hL8 hi hk⟩ (q_his_frame (fun y h1 => w1.2 y (by omega)) z2)
