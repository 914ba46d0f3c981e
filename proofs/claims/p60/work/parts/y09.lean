/-! ===== the law's own game: where a bishop can go ===== -/
def w_can (o : Nat → Int32) (n f t : Nat) : Bool := decide (¬ o f = -1 ∧ ¬ o t = o f) && w_reach o n f t
def w_ix (n f : Nat) (dr dc : Int) (i : Nat) : Nat := ((((f / n : Nat) : Int) + i * dr) * n + (((f % n : Nat) : Int) + i * dc)).toNat
theorem w_fr_iff (o : Nat → Int32) (f : Nat) (s : Int) : ∀ k, w_fr o f s k = true ↔ ∀ i : Nat, 1 ≤ i → i ≤ k → o ((f : Int) + (i : Int) * s).toNat = -1 := by
  intro k
  induction k with
  | zero => exact ⟨fun _ i h1 h2 => by omega, fun _ => rfl⟩
  | succ k ih =>
    simp only [w_fr, Bool.and_eq_true, decide_eq_true_eq]
    rw [ih]
    constructor
    · rintro ⟨h1, h2⟩ i i1 i2
      by_cases hi : i = k + 1
      · rw [hi, Int.natCast_add]
        exact h2
      · exact h1 i i1 (by omega)
    · intro h
      refine ⟨fun i i1 i2 => h i i1 (by omega), ?_⟩
      have := h (k + 1) (by omega) (Nat.le_refl _)
      rw [Int.natCast_add] at this
      exact this
theorem w_ix_eq {n f i : Nat} {dr dc : Int} : ((f : Int) + (i : Int) * (dr * n + dc)).toNat = w_ix n f dr dc i := by
  have h : ((f / n * n + f % n : Nat) : Int) = (f : Int) := by rw [Nat.div_add_mod']
  rw [Int.natCast_add, Int.natCast_mul] at h
  unfold w_ix
  refine congrArg Int.toNat ?_
  rw [← h, Int.add_mul, Int.mul_add, Int.mul_assoc]
  omega
/-- whether a bishop can go from f to t, by its direction and the steps -/
theorem w_can_iff {o : Nat → Int32} {n f t : Nat} : w_can o n f t = true ↔ ¬ o f = -1 ∧ ¬ o t = o f ∧ ∃ (dr dc : Int) (k : Nat), (dr = 1 ∨ dr = -1) ∧ (dc = 1 ∨ dc = -1) ∧ 1 ≤ k ∧ ((t / n : Nat) : Int) = ((f / n : Nat) : Int) + k * dr ∧ ((t % n : Nat) : Int) = ((f % n : Nat) : Int) + k * dc ∧ ∀ i, 1 ≤ i → i < k → o (w_ix n f dr dc i) = -1 := by
  unfold w_can w_reach
  simp only [Bool.and_eq_true, decide_eq_true_eq]
  constructor
  · rintro ⟨⟨h1, h2⟩, ⟨h3, h4⟩, h5⟩
    refine ⟨h1, h2, ?_⟩
    have fin : ∀ dr dc : Int, (dr = 1 ∨ dr = -1) → (dc = 1 ∨ dc = -1) → w_st n f t = dr * n + dc → w_dr n f t = ((w_dr n f t).natAbs : Int) * dr → w_dc n f t = ((w_dr n f t).natAbs : Int) * dc → ∃ (dr dc : Int) (k : Nat), (dr = 1 ∨ dr = -1) ∧ (dc = 1 ∨ dc = -1) ∧ 1 ≤ k ∧ ((t / n : Nat) : Int) = ((f / n : Nat) : Int) + k * dr ∧ ((t % n : Nat) : Int) = ((f % n : Nat) : Int) + k * dc ∧ ∀ i, 1 ≤ i → i < k → o (w_ix n f dr dc i) = -1 := by
      intro dr dc d1 d2 e1 e2 e3
      refine ⟨dr, dc, (w_dr n f t).natAbs, d1, d2, by omega, ?_, ?_, fun i i1 i2 => ?_⟩
      · rw [← e2]; unfold w_dr; omega
      · rw [← e3]; unfold w_dc; omega
      · rw [← w_ix_eq, ← e1]
        exact (w_fr_iff o f _ _).mp h5 i i1 (by omega)
    by_cases c1 : w_dr n f t ≤ 0
    · by_cases c2 : w_dc n f t ≤ 0
      · exact fin (-1) (-1) (Or.inr rfl) (Or.inr rfl) (by unfold w_st; rw [if_pos c1, if_pos c2]; omega) (by omega) (by omega)
      · exact fin (-1) 1 (Or.inr rfl) (Or.inl rfl) (by unfold w_st; rw [if_pos c1, if_neg c2]; omega) (by omega) (by omega)
    · by_cases c2 : w_dc n f t ≤ 0
      · exact fin 1 (-1) (Or.inl rfl) (Or.inr rfl) (by unfold w_st; rw [if_neg c1, if_pos c2]; omega) (by omega) (by omega)
      · exact fin 1 1 (Or.inl rfl) (Or.inl rfl) (by unfold w_st; rw [if_neg c1, if_neg c2]; omega) (by omega) (by omega)
  · rintro ⟨h1, h2, dr, dc, k, d1, d2, hk, hU, hV, hray⟩
    have e1 : w_dr n f t = (k : Int) * dr := by unfold w_dr; omega
    have e2 : w_dc n f t = (k : Int) * dc := by unfold w_dc; omega
    have a1 : (w_dr n f t).natAbs = k := by rw [e1]; rcases d1 with rfl | rfl <;> omega
    have a2 : (w_dc n f t).natAbs = k := by rw [e2]; rcases d2 with rfl | rfl <;> omega
    have st : w_st n f t = dr * n + dc := by
      unfold w_st
      rw [e1, e2]
      rcases d1 with rfl | rfl <;> rcases d2 with rfl | rfl <;> split <;> first | omega | (split <;> omega)
    refine ⟨⟨h1, h2⟩, ⟨by omega, by rw [a1, a2]⟩, (w_fr_iff o f _ _).mpr (fun i i1 i2 => ?_)⟩
    rw [st, w_ix_eq]
    exact hray i i1 (by omega)
def w_dR (d : Nat) : Int := if d < 2 then 1 else -1
def w_dC (d : Nat) : Int := if d % 2 = 0 then 1 else -1
theorem w_dd (d : Nat) : (w_dR d = 1 ∨ w_dR d = -1) ∧ (w_dC d = 1 ∨ w_dC d = -1) := by
  unfold w_dR w_dC
  constructor
  · split
    · exact Or.inl rfl
    · exact Or.inr rfl
  · split
    · exact Or.inl rfl
    · exact Or.inr rfl
theorem w_canGo {g : ev_G} {S : ev_S} {a n f t : Nat} {o : Nat → Int32} (h4 : 4 ≤ n) (h8 : n ≤ 8) (hf : f < n * n) (ht : t < n * n) (ho : ∀ s, s < n * n → S.1 (a + 1) s = o s) (hv : ∀ s, s < n * n → o s = -1 ∨ 0 ≤ (o s).toInt) :
    ev_Fn g m_X10_canGo 1 [ev_o 10 a, ev_i (Int32.ofNat n), ev_i (Int32.ofNat f), ev_i (Int32.ofNat t)] S (some (ev_i (if w_can o n f t = true then 1 else 0))) S := by
  intro Q hQ
  have hn9 := sq_le h8
  have hF : f / n < n := Nat.div_lt_of_lt_mul hf
  have hU : t / n < n := Nat.div_lt_of_lt_mul ht
  have hG : f % n < n := Nat.mod_lt _ (by omega)
  have hV : t % n < n := Nat.mod_lt _ (by omega)
  have hci := @w_can_iff o n f t
  obtain ⟨F, hFe⟩ : ∃ F, f / n = F := ⟨_, rfl⟩
  obtain ⟨G, hGe⟩ : ∃ G, f % n = G := ⟨_, rfl⟩
  obtain ⟨U, hUe⟩ : ∃ U, t / n = U := ⟨_, rfl⟩
  obtain ⟨V, hVe⟩ : ∃ V, t % n = V := ⟨_, rfl⟩
  rw [hFe, hGe, hUe, hVe] at hci
  rw [hFe] at hF
  rw [hGe] at hG
  rw [hUe] at hU
  rw [hVe] at hV
  generalize hR : w_can o n f t = R at hQ hci
  have e4 : (4 : Int32) = Int32.ofNat 4 := rfl
  have e0 : (0 : Int32) = Int32.ofNat 0 := rfl
  have i1 : (1 : Int32).toInt = 1 := rfl
  have im1 : (-1 : Int32).toInt = -1 := rfl
  have i0 : (0 : Int32).toInt = 0 := rfl
  refine sg_X10_canGo_0 a _ _ _ ⟨(n_vp (by omega) (by omega)).mpr trivial, ?_⟩
  rw [n_c (by omega), ho f hf, e0]
  have key := dn (n := 4) (P := fun d => ((∀ e, e < d → ∀ k : Nat, 1 ≤ k → ¬ ((U : Int) = (F : Int) + k * w_dR e ∧ (V : Int) = (G : Int) + k * w_dC e)) ∨ ¬ R = true) → ev_E g m_X10_canGo 1 0 11 [some (ev_o 10 a), some (ev_i (Int32.ofNat n)), some (ev_i (Int32.ofNat f)), some (ev_i (Int32.ofNat t)), some (ev_i (o f)), some (ev_i (Int32.ofNat d)), none, none, none] [] S Q) ?_ ?_ 0 (Nat.zero_le _)
  · exact key (Or.inl (fun e he => by omega))
  · intro hno
    refine sg_X10_canGo_11 a _ _ _ _ _ (j_pos (by rw [e4]; exact Int32.le_refl _) ?_)
    have hnR : ¬ R = true := by
      rcases hno with hno | hno
      · intro hr
        obtain ⟨-, -, dr, dc, k, d1, d2, hk, q1, q2, -⟩ := hci.mp hr
        rcases d1 with rfl | rfl
        · rcases d2 with rfl | rfl
          · exact hno 0 (by omega) k hk ⟨q1, q2⟩
          · exact hno 1 (by omega) k hk ⟨q1, q2⟩
        · rcases d2 with rfl | rfl
          · exact hno 2 (by omega) k hk ⟨q1, q2⟩
          · exact hno 3 (by omega) k hk ⟨q1, q2⟩
      · exact hno
    rw [if_neg hnR] at hQ
    exact hQ
  · intro d hd ih hno
    refine sg_X10_canGo_11 a _ _ _ _ _ (j_neg (by rw [e4, n_le (by omega) (by omega)]; omega) ?_)
    rw [n_neg1 (hv f hf)]
    refine ⟨fun c => ?_, fun c => ⟨by rw [n_z (by omega)]; omega, ?_⟩⟩
    · rw [if_neg (fun hr => (hci.mp hr).1 c)] at hQ
      exact hQ
    rw [n_divc (by omega) (by omega) (by omega), n_remc (by omega) (by omega) (by omega), hFe, hGe]
    obtain ⟨d1, d2⟩ := w_dd d
    -- the way of R in this direction is this one
    have hRay : R = true → ∀ k : Nat, 1 ≤ k → (U : Int) = (F : Int) + k * w_dR d → (V : Int) = (G : Int) + k * w_dC d → ∀ i, 1 ≤ i → i < k → o (w_ix n f (w_dR d) (w_dC d) i) = -1 := fun hr k hk q1 q2 i i1 i2 => by
      obtain ⟨-, -, dr, dc, k', b1, b2, hk', p1, p2, hray⟩ := hci.mp hr
      have er : dr = w_dR d ∧ k' = k := by
        rcases b1 with rfl | rfl <;> rcases d1 with h9 | h9 <;> rw [h9] at q1 ⊢ <;> constructor <;> omega
      have ec : dc = w_dC d := by
        rw [er.2] at p2
        rcases b2 with rfl | rfl <;> rcases d2 with h9 | h9 <;> rw [h9] at q2 ⊢ <;> omega
      rw [← er.1, ← ec]
      exact hray i i1 (by rw [er.2]; exact i2)
    -- on to the next direction
    have next : ∀ u6 u7 : Int32, ((∀ k : Nat, 1 ≤ k → ¬ ((U : Int) = (F : Int) + k * w_dR d ∧ (V : Int) = (G : Int) + k * w_dC d)) ∨ ¬ R = true) → ev_E g m_X10_canGo 1 0 35 [some (ev_o 10 a), some (ev_i (Int32.ofNat n)), some (ev_i (Int32.ofNat f)), some (ev_i (Int32.ofNat t)), some (ev_i (o f)), some (ev_i (Int32.ofNat d)), some (ev_i u6), some (ev_i u7), some (ev_i 0)] [] S Q := fun u6 u7 hh => by
      refine sg_X10_canGo_35 a _ _ _ _ _ _ _ _ (j_pos rfl ?_)
      rw [n_inc]
      refine ih ?_
      rcases hno with hno | hno
      · rcases hh with hh | hh
        · left
          intro e he k hk
          by_cases hed : e = d
          · rw [hed]; exact hh k hk
          · exact hno e (by omega) k hk
        · exact Or.inr hh
      · exact Or.inr hno
    have shut : ∀ u6 u7 : Int32, ((∀ k : Nat, 1 ≤ k → ¬ ((U : Int) = (F : Int) + k * w_dR d ∧ (V : Int) = (G : Int) + k * w_dC d)) ∨ ¬ R = true) → ev_E g m_X10_canGo 1 0 119 [some (ev_o 10 a), some (ev_i (Int32.ofNat n)), some (ev_i (Int32.ofNat f)), some (ev_i (Int32.ofNat t)), some (ev_i (o f)), some (ev_i (Int32.ofNat d)), some (ev_i u6), some (ev_i u7), some (ev_i 0)] [] S Q := fun u6 u7 hh => by
      refine sg_X10_canGo_119 a _ _ _ _ _ _ _ _ (j_pos rfl ?_)
      exact sg_X10_canGo_137 a _ _ _ _ _ _ _ _ (j_pos rfl (next u6 u7 hh))
    have ray : ∀ (m j : Nat) (u6 u7 : Int32), j + m = n → (0 ≤ (F : Int) + j * w_dR d ∧ (F : Int) + j * w_dR d < n) → (∀ i, 1 ≤ i → i ≤ j → o (w_ix n f (w_dR d) (w_dC d) i) = -1) → (∀ i : Nat, 1 ≤ i → i ≤ j → ¬ ((U : Int) = (F : Int) + i * w_dR d ∧ (V : Int) = (G : Int) + i * w_dC d)) →
        u6.toInt = (F : Int) + j * w_dR d → u7.toInt = (G : Int) + j * w_dC d → -100 < u7.toInt → u7.toInt < 100 → ev_E g m_X10_canGo 1 0 35 [some (ev_o 10 a), some (ev_i (Int32.ofNat n)), some (ev_i (Int32.ofNat f)), some (ev_i (Int32.ofNat t)), some (ev_i (o f)), some (ev_i (Int32.ofNat d)), some (ev_i u6), some (ev_i u7), some (ev_i 1)] [] S Q := by
      intro m
      induction m with
      | zero =>
        intro j u6 u7 hjm hin
        exfalso
        have hj : j = n := by omega
        subst hj
        rcases d1 with h9 | h9 <;> rw [h9] at hin <;> omega
      | succ m ihm =>
        intro j u6 u7 hjm hin hemp hnot t6 t7 b7 b7'
        have go : ∀ v6 v7 : Int32, v6.toInt = (F : Int) + (j + 1 : Nat) * w_dR d → v7.toInt = (G : Int) + (j + 1 : Nat) * w_dC d → ev_E g m_X10_canGo 1 0 73 [some (ev_o 10 a), some (ev_i (Int32.ofNat n)), some (ev_i (Int32.ofNat f)), some (ev_i (Int32.ofNat t)), some (ev_i (o f)), some (ev_i (Int32.ofNat d)), some (ev_i v6), some (ev_i v7), none] [] S Q := by
          intro v6 v7 s6 s7
          -- nothing lies outside
          have out : ¬ (0 ≤ v6.toInt ∧ v6.toInt < n ∧ 0 ≤ v7.toInt ∧ v7.toInt < n) → ev_E g m_X10_canGo 1 0 119 [some (ev_o 10 a), some (ev_i (Int32.ofNat n)), some (ev_i (Int32.ofNat f)), some (ev_i (Int32.ofNat t)), some (ev_i (o f)), some (ev_i (Int32.ofNat d)), some (ev_i v6), some (ev_i v7), some (ev_i 0)] [] S Q := fun hx => by
            refine shut v6 v7 (Or.inl (fun k hk hh => ?_))
            have hkj : j + 1 ≤ k := by
              apply Nat.le_of_not_lt
              intro q
              exact hnot k hk (by omega) hh
            obtain ⟨q1, q2⟩ := hh
            apply hx
            rw [s6, s7]
            refine ⟨?_, ?_, ?_, ?_⟩
            · rcases d1 with h9 | h9 <;> rw [h9] at q1 ⊢ <;> omega
            · rcases d1 with h9 | h9 <;> rw [h9] at q1 ⊢ <;> omega
            · rcases d2 with h9 | h9 <;> rw [h9] at q2 ⊢ <;> omega
            · rcases d2 with h9 | h9 <;> rw [h9] at q2 ⊢ <;> omega
          refine sg_X10_canGo_73 a _ _ _ _ _ _ _ ?_
          rw [z_lt, z_lt, z_le, z_le, i0, n_i (by omega)]
          refine ⟨fun c => out (by omega), fun c0 => ⟨fun c => out (by omega), fun c1 => ⟨fun c => out (by omega), fun c2 => ⟨fun c => out (by omega), fun c3 => ?_⟩⟩⟩⟩
          obtain ⟨X, rfl, hX, -⟩ := n_ofi (x := v6) (k := (n : Int) - 1) (by omega) (by omega)
          obtain ⟨Y, rfl, hY, -⟩ := n_ofi (x := v7) (k := (n : Int) - 1) (by omega) (by omega)
          have hX : X < n := by omega
          have hY : Y < n := by omega
          rw [n_i (by omega)] at s6 s7
          have hXY : X * n + Y < n * n := by
            have h1 : (X + 1) * n ≤ n * n := Nat.mul_le_mul_right n (by omega)
            rw [Nat.add_mul, Nat.one_mul] at h1
            omega
          have hix : w_ix n f (w_dR d) (w_dC d) (j + 1) = X * n + Y := by
            unfold w_ix
            rw [hFe, hGe, ← s6, ← s7, ← Int.natCast_mul, ← Int.natCast_add]
            exact Int.toNat_natCast _
          have tix : (X * n + Y = t) = ((U : Int) = (X : Int) ∧ (V : Int) = (Y : Int)) := by
            apply propext
            constructor
            · intro h
              have u1 : t / n = X := by rw [← h, Nat.add_comm, Nat.add_mul_div_right _ _ (by omega), Nat.div_eq_of_lt hY, Nat.zero_add]
              have u2 : t % n = Y := by rw [← h, Nat.add_comm, Nat.add_mul_mod_self_right, Nat.mod_eq_of_lt hY]
              rw [← hUe, ← hVe, u1, u2]
              exact ⟨rfl, rfl⟩
            · rintro ⟨h1, h2⟩
              have h3 := Nat.div_add_mod' t n
              rw [hUe, hVe, show U = X by omega, show V = Y by omega] at h3
              exact h3
          rw [n_mul, n_add, n_c (by omega), ho _ hXY]
          refine ⟨(n_vp (by omega) (by omega)).mpr trivial, fun c => shut _ _ ?_, fun c => ?_⟩
          · -- an own bishop
            by_cases hr : R = true
            · left
              intro k hk hh
              have hkj : j + 1 ≤ k := by
                apply Nat.le_of_not_lt
                intro q
                exact hnot k hk (by omega) hh
              by_cases hk1 : k = j + 1
              · rw [hk1, ← s6, ← s7] at hh
                have := tix.symm.mp hh
                rw [this] at c
                exact (hci.mp hr).2.1 c
              · have := hRay hr k hk hh.1 hh.2 (j + 1) (by omega) (by omega)
                rw [hix, c] at this
                exact (hci.mp hr).1 this
            · exact Or.inr hr
          refine sg_X10_canGo_119 a _ _ _ _ _ _ _ _ (j_neg (by decide) ?_)
          rw [n_mul, n_add, n_eq (by omega) (by omega)]
          refine ⟨fun ct => ?_, fun ct => ?_⟩
          · -- it is t
            have hr : R = true := by
              refine hci.mpr ⟨by assumption, by rw [← ct]; exact c, w_dR d, w_dC d, j + 1, d1, d2, by omega, ?_, ?_, fun i i1 i2 => hemp i i1 (by omega)⟩
              · rw [← s6]; exact (tix.mp ct).1
              · rw [← s7]; exact (tix.mp ct).2
            rw [if_pos hr] at hQ
            exact hQ
          refine sg_X10_canGo_137 a _ _ _ _ _ _ _ _ (j_neg (by decide) ?_)
          rw [n_mul, n_add, n_c (by omega), ho _ hXY]
          refine ⟨(n_vp (by omega) (by omega)).mpr trivial, fun c5 => next _ _ ?_, fun c5 => ?_⟩
          · -- the other's bishop is in the way
            by_cases hr : R = true
            · left
              intro k hk hh
              have hkj : j + 1 ≤ k := by
                apply Nat.le_of_not_lt
                intro q
                exact hnot k hk (by omega) hh
              by_cases hk1 : k = j + 1
              · rw [hk1, ← s6, ← s7] at hh
                exact ct (tix.symm.mp hh)
              · have := hRay hr k hk hh.1 hh.2 (j + 1) (by omega) (by omega)
                rw [hix] at this
                rw [this] at c5
                exact absurd c5 (by decide)
            · exact Or.inr hr
          · have hem : o (X * n + Y) = -1 := by
              rcases hv _ hXY with h9 | h9
              · exact h9
              · exact absurd (by rw [z_le, i0]; exact h9) c5
            refine ihm (j + 1) _ _ (by omega) (by rw [← s6]; omega) (fun i i1 i2 => ?_) (fun i i1 i2 hh => ?_) (by rw [n_i (by omega)]; exact s6) (by rw [n_i (by omega)]; exact s7) (by rw [n_i (by omega)]; omega) (by rw [n_i (by omega)]; omega)
            · by_cases hij : i = j + 1
              · rw [hij, hix]; exact hem
              · exact hemp i i1 (by omega)
            · by_cases hij : i = j + 1
              · rw [hij, ← s6, ← s7] at hh
                exact ct (tix.symm.mp hh)
              · exact hnot i i1 (by omega) hh
        refine sg_X10_canGo_35 a _ _ _ _ _ _ _ _ (j_neg (by decide) ?_)
        have p6 : (u6 + 1).toInt = u6.toInt + 1 := by rw [z_add (by rw [i1]; omega) (by rw [i1]; omega), i1]
        have m6 : (u6 + (-1)).toInt = u6.toInt - 1 := by rw [z_add (by rw [im1]; omega) (by rw [im1]; omega), im1]; omega
        have p7 : (u7 + 1).toInt = u7.toInt + 1 := by rw [z_add (by rw [i1]; omega) (by rw [i1]; omega), i1]
        have m7 : (u7 + (-1)).toInt = u7.toInt - 1 := by rw [z_add (by rw [im1]; omega) (by rw [im1]; omega), im1]; omega
        have hd4 : d = 0 ∨ d = 1 ∨ d = 2 ∨ d = 3 := by omega
        clear ih next shut hRay ihm hci hno
        rcases hd4 with rfl | rfl | rfl | rfl
        · have r1 : w_dR 0 = 1 := rfl
          have r2 : w_dC 0 = 1 := rfl
          refine j_neg (by decide) (j_pos (by decide) (go _ _ ?_ ?_))
          · rw [p6, t6, r1]; omega
          · rw [p7, t7, r2]; omega
        · have r1 : w_dR 1 = 1 := rfl
          have r2 : w_dC 1 = -1 := rfl
          refine j_neg (by decide) (j_neg (by decide) (go _ _ ?_ ?_))
          · rw [p6, t6, r1]; omega
          · rw [m7, t7, r2]; omega
        · have r1 : w_dR 2 = -1 := rfl
          have r2 : w_dC 2 = 1 := rfl
          refine j_pos (by decide) (j_pos (by decide) (go _ _ ?_ ?_))
          · rw [m6, t6, r1]; omega
          · rw [p7, t7, r2]; omega
        · have r1 : w_dR 3 = -1 := rfl
          have r2 : w_dC 3 = -1 := rfl
          refine j_pos (by decide) (j_neg (by decide) (go _ _ ?_ ?_))
          · rw [m6, t6, r1]; omega
          · rw [m7, t7, r2]; omega
    exact ray n 0 _ _ (by omega) (by omega) (fun i i1 i2 => by omega) (fun i i1 i2 => by omega) (by rw [n_i (by omega)]; omega) (by rw [n_i (by omega)]; omega) (by rw [n_i (by omega)]; omega) (by rw [n_i (by omega)]; omega)
theorem w_some {g : ev_G} {S : ev_S} {b0 b1 n : Nat} {o : Nat → Int32} {its v : Int32} (h4 : 4 ≤ n) (h8 : n ≤ 8) (hn : S.1 b0 0 = Int32.ofNat n) (ho : ∀ s, s < n * n → S.1 (b1 + 1) s = o s) (hv : ∀ s, s < n * n → o s = -1 ∨ 0 ≤ (o s).toInt) {Q : ev_O → ev_S → Prop}
    (q1 : Q (.inl (some (ev_i (-1)))) S) (q2 : ∀ f t, f < n * n → t < n * n → o f = its → w_can o n f t = true → Q (.inl (some (ev_i (Int32.ofNat (64 * f + t))))) S) : ev_Cv g m_L_some 2 0 [ev_o 11 b0, ev_o 10 b1, ev_i its, ev_i v] S Q := by
  have hn9 := sq_le h8
  have e0 : (0 : Int32) = Int32.ofNat 0 := rfl
  refine sg_L_some_0 b0 b1 _ _ ?_
  -- the second time through
  have two : ∀ left : Int32, ev_E g m_L_some 2 0 101 [some (ev_o 11 b0), some (ev_o 10 b1), some (ev_i its), none, none, some (ev_i left), some (ev_i 0), none] [] S Q := by
    have key := dn (n := n * n) (P := fun f => ∀ left : Int32, ev_E g m_L_some 2 0 101 [some (ev_o 11 b0), some (ev_o 10 b1), some (ev_i its), none, none, some (ev_i left), some (ev_i (Int32.ofNat f)), none] [] S Q) ?_ ?_ 0 (Nat.zero_le _)
    · exact key
    · intro left
      refine sg_L_some_101 b0 b1 _ _ _ ?_
      rw [hn, n_mul, n_le (by omega) (by omega)]
      exact j_pos (Nat.le_refl _) q1
    · intro f hf ih left
      refine sg_L_some_101 b0 b1 _ _ _ ?_
      rw [hn, n_mul, n_le (by omega) (by omega)]
      refine j_neg (by omega) ?_
      have key2 := dn (n := n * n) (P := fun t => ∀ left : Int32, ev_E g m_L_some 2 0 118 [some (ev_o 11 b0), some (ev_o 10 b1), some (ev_i its), none, none, some (ev_i left), some (ev_i (Int32.ofNat f)), some (ev_i (Int32.ofNat t))] [] S Q) ?_ ?_ 0 (Nat.zero_le _)
      · exact key2 left
      · intro left
        refine sg_L_some_118 b0 b1 _ _ _ _ ?_
        rw [hn, n_mul, n_le (by omega) (by omega), n_inc]
        exact j_pos (Nat.le_refl _) (ih left)
      · intro t ht ih2 left
        refine sg_L_some_118 b0 b1 _ _ _ _ ?_
        rw [hn, n_mul, n_le (by omega) (by omega), n_inc, n_inc, n_c (by omega), ho f hf]
        refine j_neg (by omega) ⟨(n_vp (by omega) (by omega)).mpr trivial, fun c => ?_, fun c => ih left⟩
        refine w_canGo h4 h8 hf ht ho hv _ ⟨_, rfl, fun c2 => ⟨fun c3 => ?_, fun c3 => ih2 _⟩, fun c2 => ih2 _⟩
        have e64 : (64 : Int32) * Int32.ofNat f + Int32.ofNat t = Int32.ofNat (64 * f + t) := by rw [lm_64, n_add]
        rw [e64]
        exact q2 f t hf ht c c2
  have key := dn (n := n * n) (P := fun f => ∀ many : Int32, ev_E g m_L_some 2 0 6 [some (ev_o 11 b0), some (ev_o 10 b1), some (ev_i its), some (ev_i v), some (ev_i many), some (ev_i (Int32.ofNat f)), none, none] [] S Q) ?_ ?_ 0 (Nat.zero_le _)
  · exact key 0
  · intro many
    refine sg_L_some_6 b0 b1 _ _ _ _ ?_
    rw [hn, n_mul, n_le (by omega) (by omega)]
    exact j_pos (Nat.le_refl _) ⟨fun _ => q1, fun c => ⟨c, two _⟩⟩
  · intro f hf ih many
    refine sg_L_some_6 b0 b1 _ _ _ _ ?_
    rw [hn, n_mul, n_le (by omega) (by omega)]
    refine j_neg (by omega) ?_
    have key2 := dn (n := n * n) (P := fun t => ∀ many : Int32, ev_E g m_L_some 2 0 23 [some (ev_o 11 b0), some (ev_o 10 b1), some (ev_i its), some (ev_i v), some (ev_i many), some (ev_i (Int32.ofNat f)), some (ev_i (Int32.ofNat t)), none] [] S Q) ?_ ?_ 0 (Nat.zero_le _)
    · exact key2 many
    · intro many
      refine sg_L_some_23 b0 b1 _ _ _ _ _ ?_
      rw [hn, n_mul, n_le (by omega) (by omega), n_inc]
      exact j_pos (Nat.le_refl _) (ih many)
    · intro t ht ih2 many
      refine sg_L_some_23 b0 b1 _ _ _ _ _ ?_
      rw [hn, n_mul, n_le (by omega) (by omega), n_inc, n_inc, n_c (by omega), ho f hf]
      refine j_neg (by omega) ⟨(n_vp (by omega) (by omega)).mpr trivial, fun c => ?_, fun c => ih many⟩
      exact w_canGo h4 h8 hf ht ho hv _ ⟨_, rfl, fun c2 => ih2 _, fun c2 => ih2 _⟩
