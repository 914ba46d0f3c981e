/-! ===== the law's cases: kept moves, awaited letters, mobility ===== -/
def aw_f (r : Nat → Int32) (p k l : Nat) : Bool := decide (¬ r (1200 + 11 * l) = Int32.ofNat p ∧ ¬ r (1200 + 11 * l + 6) = 2 ∧ r (1200 + 11 * l + 3) = Int32.ofNat (k + 1))
def o_aw (r : Nat → Int32) (p k L : Nat) : Int32 := if fnd (aw_f r p k) L < L then Int32.ofNat (fnd (aw_f r p k) L) else -1
theorem aw_end {r : Nat → Int32} {p k L i : Nat} (hi : i = L) (h : ∀ j, j < i → ¬ aw_f r p k j = true) : o_aw r p k L = -1 := by
  unfold o_aw
  rw [fnd_none L (fun j hj => h j (by omega)), if_neg (by omega)]
theorem aw_hit {r : Nat → Int32} {p k L i : Nat} (hi : i < L) (h : ∀ j, j < i → ¬ aw_f r p k j = true) (hit : aw_f r p k i = true) : o_aw r p k L = Int32.ofNat i := by
  unfold o_aw
  rw [fnd_some hit h L hi, if_pos hi]
theorem b_awaited {g : ev_G} {S : ev_S} {e n lim np L d p : Nat} {r : Nat → Int32} {ρ : List Nat} (hI : IG r n lim np L d ρ) (hL : L ≤ 80) (hg : q_gm S.1 e r n L ρ) (hp : p < 2) : ev_Fn g m_X2_awaitedBy 3 [ev_o 2 e, ev_i (Int32.ofNat p)] S (some (ev_i (o_aw r p (o_mad r p) L))) S := by
  intro Q hQ
  obtain ⟨-, -, e13⟩ := q_gm_sz hI hg
  obtain ⟨hm, hml, h60⟩ := n_mad (i_dk_of hI.1 hp)
  have hv : S.1 (e + 1 + 9 * p + 1) 6 = r (12 + 7 * p) := (hg.1 p hp).2.1.2.2.2.2.2.1
  refine sg_X2_awaitedBy_0 e _ ?_
  rw [a_desk hp, hv, hm, n_inc]
  have key : ∀ (w i : Nat), i + w = L → (∀ j, j < i → ¬ aw_f r p (o_mad r p) j = true) → ev_E g m_X2_awaitedBy 3 0 11 [some (ev_o 2 e), some (ev_i (Int32.ofNat p)), some (ev_i (Int32.ofNat (o_mad r p + 1))), some (ev_i (Int32.ofNat i))] [] S Q := by
    intro w
    induction w with
    | zero =>
      intro i hi hn
      rw [aw_end (by omega) hn] at hQ
      exact sg_X2_awaitedBy_11 e _ _ _ (j_pos (by rw [e13, n_le (by omega) (by omega)]; omega) hQ)
    | succ w ih =>
      intro i hi hn
      refine sg_X2_awaitedBy_11 e _ _ _ (j_neg (by rw [e13, n_le (by omega) (by omega)]; omega) ?_)
      have w0 : S.1 (e + 24) i = r (1200 + 11 * i) := (hg.2.1.1.2.2 i (by omega)).1
      have w6 : S.1 (e + 29) i = r (1200 + 11 * i + 6) := (hg.2.1.1.2.2 i (by omega)).2.2.1
      have w3 : S.1 (e + 25) i = r (1200 + 11 * i + 3) := (hg.2.2.1 i (by omega)).1
      rw [a_in (by omega) (by omega), a_in (by omega) (by omega), a_in (by omega) (by omega), w0, w6, w3, n_inc]
      have next : ¬ aw_f r p (o_mad r p) i = true → ev_E g m_X2_awaitedBy 3 0 11 [some (ev_o 2 e), some (ev_i (Int32.ofNat p)), some (ev_i (Int32.ofNat (o_mad r p + 1))), some (ev_i (Int32.ofNat (i + 1)))] [] S Q := fun hh => ih (i + 1) (by omega) (fun j hj => by
        by_cases hji : j = i
        · rw [hji]; exact hh
        · exact hn j (by omega))
      unfold aw_f at next
      rw [decide_eq_true_eq] at next
      refine ⟨fun h1 => next (fun hh => hh.1 h1), fun h1 => ⟨fun h2 => next (fun hh => hh.2.1 h2), fun h2 => ⟨fun h3 => ?_, fun h3 => next (fun hh => h3 hh.2.2)⟩⟩⟩
      rw [aw_hit (by omega) hn (by unfold aw_f; rw [decide_eq_true_eq]; exact ⟨h1, h2, h3⟩)] at hQ
      exact hQ
  exact key L 0 (by omega) (fun j hj => by omega)