/-! ===== the class: undo ===== -/
theorem x_undo {g : ev_G} {S : ev_S} {b u : Nat} {R now : Nat → Int32} (hh : q_his S.1 (b + 93) R u) (hs : q_sh S.1 (b + 11)) {Q : ev_O → ev_S → Prop}
    (q1 : u = 0 → Q (.inr 1) S)
    (q2 : 1 ≤ u → ∀ z, q_fr S z (b + 11) 412 → (∀ q, b + 47 ≤ q → q < b + 93 → z.1 q = S.1 q) → q_any z.1 (b + 11) (o_un now R (u - 1) 0) → q_his z.1 (b + 93) R (u - 1) → q_sh z.1 (b + 11) → Q (.inl (some (ev_i (Int32.ofNat (u - 1))))) z) :
    ev_Cv g m_X9_undo 6 1 [ev_o 9 b] S Q := by
  have e0 : (0 : Int32) = Int32.ofNat 0 := rfl
  have hu := hh.2.1
  refine sg_X9_undo_0 b ?_
  rw [hh.1, e0, n_eq (by omega) (by omega)]
  refine ⟨fun h => q1 h, fun h => ?_⟩
  refine h_takeBack (a := b + 93) (b := b + 11) (by omega) (by omega) hh hs (fun z r z0 z1 z2 z3 z4 z5 z6 => ⟨rfl, ?_⟩)
  rw [z6]
  refine q2 (by omega) z ⟨z0, fun q hq => z1 q (by omega) (by omega)⟩ (fun q h1 h2 => z1 q (by omega) (by omega)) (q_any_lt (r := r) (fun j hj => ?_) z3) z4 z5
  unfold o_un
  rw [if_pos (by omega)]
  exact z2 j hj
