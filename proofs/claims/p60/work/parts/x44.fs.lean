/-! ===== the law's cases: mobility ===== -/
def mob (r : Nat → Int32) (p n s : Nat) : Nat → Nat → Nat
  | 0, _ => 0
  | w + 1, f => (if r (26 + 64 * p + f) = Int32.ofNat s then cnt (fun t => o_moves r p n (Int32.ofNat s) f t) (n * n) else 0) + mob r p n s w (f + 1)
theorem mob_le (r : Nat → Int32) (p n s : Nat) : ∀ w f, mob r p n s w f ≤ w * (n * n) := by
  intro w
  induction w with
  | zero => intro f; exact Nat.zero_le _
  | succ w ih =>
    intro f
    have h1 := ih (f + 1)
    have h2 := cnt_le (fun t => o_moves r p n (Int32.ofNat s) f t) (n * n)
    rw [mob, Nat.succ_mul w (n * n)]
    by_cases h : r (26 + 64 * p + f) = Int32.ofNat s
    · rw [if_pos h]; omega
    · rw [if_neg h]; omega
theorem b_ways {g : ev_G} {S : ev_S} {b p n mm s : Nat} {r : Nat → Int32} (h4 : 4 ≤ n) (h8 : n ≤ 8) (hn : r 0 = Int32.ofNat n) (hb : q_board S.1 b r p n mm) : ev_Fn g m_X0_waysOf 4 [ev_o 0 b, ev_i (Int32.ofNat s)] S (some (ev_i (Int32.ofNat (mob r p n s (n * n) 0)))) S := by
  intro Q hQ
  have hn9 := sq_le h8
  have e4 : S.1 b 4 = Int32.ofNat n := by rw [hb.2.2.2.1]; exact hn
  refine sg_X0_waysOf_0 b _ ?_
  rw [e4, n_mul]
  have inner : ∀ (f A : Nat), f < n * n → r (26 + 64 * p + f) = Int32.ofNat s → A < 100000 → (ev_E g m_X0_waysOf 4 0 15 [some (ev_o 0 b), some (ev_i (Int32.ofNat s)), some (ev_i (Int32.ofNat (A + cnt (fun t => o_moves r p n (Int32.ofNat s) f t) (n * n)))), some (ev_i (Int32.ofNat (n * n))), some (ev_i (Int32.ofNat (f + 1))), none] [] S Q) →
      ∀ (w t : Nat), t + w = n * n → ev_E g m_X0_waysOf 4 0 34 [some (ev_o 0 b), some (ev_i (Int32.ofNat s)), some (ev_i (Int32.ofNat (A + cnt (fun t => o_moves r p n (Int32.ofNat s) f t) t))), some (ev_i (Int32.ofNat (n * n))), some (ev_i (Int32.ofNat f)), some (ev_i (Int32.ofNat t))] [] S Q := by
    intro f A hf hr hA hnext w
    induction w with
    | zero =>
      intro t ht
      have e : t = n * n := by omega
      subst e
      refine sg_X0_waysOf_34 b _ _ _ _ _ (j_pos (Int32.le_refl _) ?_)
      rw [n_inc]
      exact hnext
    | succ w ih =>
      intro t ht
      have hc := cnt_le (fun t => o_moves r p n (Int32.ofNat s) f t) t
      refine sg_X0_waysOf_34 b _ _ _ _ _ (j_neg (by rw [n_le (by omega) (by omega)]; omega) ?_)
      refine b_reach h4 h8 (by omega) (by omega) hn hb _ ⟨_, rfl, ?_⟩
      rw [hr, n_inc, n_inc]
      have hi := ih (t + 1) (by omega)
      refine ⟨fun h => ?_, fun h => ?_⟩
      · rw [cnt_t h] at hi
        exact hi
      · rw [cnt_f h] at hi
        exact hi
  have outer : ∀ (w f A : Nat), f + w = n * n → A + w * (n * n) < 100000 → A + mob r p n s w f = mob r p n s (n * n) 0 → ev_E g m_X0_waysOf 4 0 15 [some (ev_o 0 b), some (ev_i (Int32.ofNat s)), some (ev_i (Int32.ofNat A)), some (ev_i (Int32.ofNat (n * n))), some (ev_i (Int32.ofNat f)), none] [] S Q := by
    intro w
    induction w with
    | zero =>
      intro f A hf hA hm
      have hm' : A = mob r p n s (n * n) 0 := hm
      rw [← hm'] at hQ
      exact sg_X0_waysOf_15 b _ _ _ _ (j_pos (by rw [n_le (by omega) (by omega)]; omega) hQ)
    | succ w ih =>
      intro f A hf hA hm
      rw [Nat.succ_mul w (n * n)] at hA
      rw [mob] at hm
      have hc := cnt_le (fun t => o_moves r p n (Int32.ofNat s) f t) (n * n)
      refine sg_X0_waysOf_15 b _ _ _ _ (j_neg (by rw [n_le (by omega) (by omega)]; omega) ?_)
      rw [a_in (by omega) (by omega), hb.1 f (by omega), n_inc]
      refine ⟨fun h => ?_, fun h => ?_⟩
      · rw [if_pos h] at hm
        exact inner f A (by omega) h (by omega) (ih (f + 1) _ (by omega) (by omega) (by omega)) (n * n) 0 (by omega)
      · rw [if_neg h] at hm
        exact ih (f + 1) A (by omega) (by omega) (by omega)
  have h64 : n * n * (n * n) ≤ 64 * 64 := Nat.mul_le_mul hn9 hn9
  exact outer (n * n) 0 0 (by omega) (by omega) (by omega)