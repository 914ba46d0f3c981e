/-! ===== a new game: the row, and the class's picture ===== -/
def o_beg (A : Nat → Int32) : Nat → Int32 := fun j => if 2091 ≤ j then A j else if (26 ≤ j ∧ j < 154) ∨ (514 ≤ j ∧ j < 762) ∨ j = 14 ∨ j = 21 then -1 else 0
def o_gm0 (A : Nat → Int32) (N lim : Nat) : Nat → Int32 := upd (upd (o_beg A) 0 (Int32.ofNat N)) 1 (Int32.ofNat lim)
theorem g0_0 {A : Nat → Int32} {N lim j : Nat} (h1 : 2 ≤ j) (h2 : j < 2091) (h : ¬ ((26 ≤ j ∧ j < 154) ∨ (514 ≤ j ∧ j < 762) ∨ j = 14 ∨ j = 21)) : o_gm0 A N lim j = 0 := by
  unfold o_gm0 o_beg
  rw [u_k (by omega), u_k (by omega), if_neg (by omega), if_neg h]
theorem g0_m {A : Nat → Int32} {N lim j : Nat} (h : (26 ≤ j ∧ j < 154) ∨ (514 ≤ j ∧ j < 762) ∨ j = 14 ∨ j = 21) : o_gm0 A N lim j = -1 := by
  unfold o_gm0 o_beg
  rw [u_k (by omega), u_k (by omega), if_neg (by omega), if_pos h]
theorem g0_N {A : Nat → Int32} {N lim : Nat} : o_gm0 A N lim 0 = Int32.ofNat N ∧ o_gm0 A N lim 1 = Int32.ofNat lim := by
  unfold o_gm0
  exact ⟨by rw [u_k (by omega), u_s], by rw [u_s]⟩
theorem cnt_0 {f : Nat → Bool} : ∀ n, (∀ i, i < n → ¬ f i = true) → cnt f n = 0 := by
  intro n
  induction n with
  | zero => intro _; rfl
  | succ n ih => intro h; rw [cnt_f (h n (by omega))]; exact ih (fun i hi => h i (by omega))
theorem IG_gm0 {A : Nat → Int32} {N lim : Nat} (h8 : N ≤ 8) (h60 : lim ≤ 60) : IG (o_gm0 A N lim) N lim 0 0 0 [] := by
  have z : (0 : Int32) = Int32.ofNat 0 := rfl
  have hm : ∀ p, p < 2 → o_mad (o_gm0 A N lim) p = 0 := fun p hp => by unfold o_mad; rw [g0_0 (by omega) (by omega) (by omega)]; rfl
  have dk : ∀ p, p < 2 → i_dk (o_gm0 A N lim) p N lim := fun p hp => ⟨g0_N.1, h8, g0_N.2, h60, ⟨0, g0_0 (by omega) (by omega) (by omega), by omega⟩, fun k hk => Or.inl (g0_m (by omega)), fun k hk => Or.inl ⟨g0_0 (by omega) (by omega) (by omega), g0_0 (by omega) (by omega) (by omega)⟩⟩
  refine ⟨⟨dk 0 (by omega), dk 1 (by omega), g0_0 (by omega) (by omega) (by omega), by omega, g0_0 (by omega) (by omega) (by omega), by omega, g0_0 (by omega) (by omega) (by omega), by omega, fun l hl => absurd hl (by omega)⟩, ⟨⟨g0_0 (by omega) (by omega) (by omega), by omega, g0_0 (by omega) (by omega) (by omega), by omega, g0_0 (by omega) (by omega) (by omega), by omega, fun q hq => absurd hq (by omega), fun l hl => absurd hl (by omega)⟩, ⟨0, g0_0 (by omega) (by omega) (by omega), by show 0 + 0 ≤ 0; omega, fun l hl => absurd hl (by omega)⟩, ⟨fun l hl => absurd hl (by simp), List.Pairwise.nil, fun l hl => absurd hl (by omega)⟩⟩, fun p hp => ⟨fun s hs => Or.inl (g0_m (by omega)), fun k hk => absurd hk (by rw [hm p hp]; omega)⟩⟩
theorem i_ok_gm0 {A : Nat → Int32} {N lim : Nat} (h4 : 4 ≤ N) : i_ok (o_gm0 A N lim) N 0 0 :=
  ⟨h4, g0_0 (by omega) (by omega) (by omega), fun q _ _ s hs => g0_0 (by omega) (by omega) (by omega), g0_0 (by omega) (by omega) (by omega)⟩
theorem f_s {S : ev_S} {n r k : Nat} {v : Int32} (h : k < n) : (j_fill S n r v).1 r k = v := by
  unfold j_fill
  rw [r_s]
  exact if_pos h
theorem f_r {S : ev_S} {n r q : Nat} {v : Int32} (h : q ≠ r) : (j_fill S n r v).1 q = S.1 q := r_r h
theorem f_2 (S : ev_S) (n r : Nat) (v : Int32) : (j_fill S n r v).2 = S.2 := rfl
theorem d_clear {g : ev_G} {S : ev_S} {e p N lim : Nat} {A : Nat → Int32} (hp : p < 2) (h8 : N ≤ 8) (h0 : S.1 e 0 = Int32.ofNat p) {Q : ev_O → ev_S → Prop}
    (hQ : ∀ z, q_fr S z e 9 → q_dk z.1 e (o_gm0 A N lim) p N → Q (.inl none) z) : ev_Cv g m_X1_clear 3 0 [ev_o 1 e, ev_i (Int32.ofNat N), ev_i (Int32.ofNat lim)] S Q := by
  have hn9 := sq_le h8
  refine sg_X1_clear_0 e _ _ (sg_X0_clear_0 (e + 1) _ _ ?_)
  intro T1 t1 T2 t2 T3 t3 T4 t4 T5 t5 T6 t6 T7 t7
  refine ⟨rfl, ?_⟩
  intro S2 e2 S3 e3 S4 e4 S5 e5 S6 e6 S7 e7 S8 e8 S9 e9 S10 e10
  have xq : ∀ q, q ≠ e → q ≠ e + 6 → q ≠ e + 7 → q ≠ e + 8 → S10.1 q = T7.1 q := fun q h1 h2 h3 h4 => by rw [e10, m_r h1, e9, m_r h1, e8, m_r h1, e7, m_r h1, e6, m_r h1, e5, m_r h1, e4, f_r h4, e3, f_r h3, e2, f_r h2]
  have yq : ∀ q, q ≠ e + 1 → q ≠ e + 2 → q ≠ e + 3 → T7.1 q = S.1 q := fun q h1 h2 h3 => by rw [t7, f_r h3, t6, f_r h2, t5, m_r h1, t4, m_r h1, t3, m_r h1, t2, m_r h1, t1, m_r h1]
  have xe : ∀ j, j < 5 → S10.1 e j = S.1 e j := fun j hj => by rw [e10, m_k (by omega), e9, m_k (by omega), e8, m_k (by omega), e7, m_k (by omega), e6, m_k (by omega), e5, m_k (by omega), e4, f_r (by omega), e3, f_r (by omega), e2, f_r (by omega), yq e (by omega) (by omega) (by omega)]
  have b1 : S10.1 (e + 1) = T7.1 (e + 1) := xq _ (by omega) (by omega) (by omega) (by omega)
  have b2 : S10.1 (e + 2) = T7.1 (e + 2) := xq _ (by omega) (by omega) (by omega) (by omega)
  have b3 : S10.1 (e + 3) = T7.1 (e + 3) := xq _ (by omega) (by omega) (by omega) (by omega)
  have hm : o_mad (o_gm0 A N lim) p = 0 := by unfold o_mad; rw [g0_0 (by omega) (by omega) (by omega)]; rfl
  have z0 : (0 : Int32) = Int32.ofNat 0 := rfl
  have hb : ∀ q : Int32, ¬ (-1 : Int32) = q → o_bish (o_gm0 A N lim) p N q = 0 := fun q hq => cnt_0 _ (fun s hs => by rw [g0_m (by omega)]; simp [hq])
  refine hQ S10 ⟨by rw [e10, e9, e8, e7, e6, e5, e4, e3, e2, t7, t6, t5, t4, t3, t2, t1]; rfl, fun q hq => by rw [xq q (by omega) (by omega) (by omega) (by omega), yq q (by omega) (by omega) (by omega)]⟩ ?_
  unfold q_dk
  rw [hm]
  refine ⟨by rw [xe 0 (by omega)]; exact h0, ⟨fun s hs => ?_, ?_, ?_, ?_, ?_, ?_, ?_, ?_, fun k hk => absurd hk (by omega)⟩, fun k hk => ?_, fun k hk => ?_, ?_, ?_, ?_, ?_, ?_, ?_⟩
  · rw [g0_m (by omega), show e + 1 + 1 = e + 2 from rfl, b2, t7, f_r (by omega), t6]
    exact f_s hs
  · rw [hb 0 (by decide), show e + 1 + 2 = e + 3 from rfl, b3, t7]
    exact f_s (by omega)
  · rw [hb 1 (by decide), show e + 1 + 2 = e + 3 from rfl, b3, t7]
    exact f_s (by omega)
  · rw [b1, t7, f_r (by omega), t6, f_r (by omega), t5, m_k (by omega), t4, m_k (by omega), t3, m_k (by omega), t2, m_k (by omega), t1, m_s, g0_N.1]
  · rw [b1, t7, f_r (by omega), t6, f_r (by omega), t5, m_k (by omega), t4, m_k (by omega), t3, m_k (by omega), t2, m_s, g0_N.2]
  · rw [b1, t7, f_r (by omega), t6, f_r (by omega), t5, m_k (by omega), t4, m_k (by omega), t3, m_s, g0_0 (by omega) (by omega) (by omega)]
  · rw [b1, t7, f_r (by omega), t6, f_r (by omega), t5, m_k (by omega), t4, m_s, g0_0 (by omega) (by omega) (by omega)]
  · rw [b1, t7, f_r (by omega), t6, f_r (by omega), t5, m_s, g0_0 (by omega) (by omega) (by omega), g0_0 (by omega) (by omega) (by omega)]
    rfl
  · rw [g0_m (by omega), if_pos rfl, e10, m_r (by omega), e9, m_r (by omega), e8, m_r (by omega), e7, m_r (by omega), e6, m_r (by omega), e5, m_r (by omega), e4, f_r (by omega), e3, f_r (by omega), e2]
    exact f_s (by omega)
  · have hfl := o_fl_or p k
    rw [g0_0 (by omega) (by omega) (by omega)]
    refine ⟨fun _ => ⟨?_, ?_⟩, fun hh => absurd rfl hh⟩
    · rw [e10, m_r (by omega), e9, m_r (by omega), e8, m_r (by omega), e7, m_r (by omega), e6, m_r (by omega), e5, m_r (by omega), e4, f_r (by omega), e3]
      exact f_s (by omega)
    · rw [e10, m_r (by omega), e9, m_r (by omega), e8, m_r (by omega), e7, m_r (by omega), e6, m_r (by omega), e5, m_r (by omega), e4]
      exact f_s (by omega)
  · have : o_nst (o_gm0 A N lim) p = 0 := cnt_0 _ (fun k hk => by rw [g0_m (by omega)]; decide)
    rw [this, e10, m_k (by omega), e9, m_k (by omega), e8, m_k (by omega), e7, m_k (by omega), e6, m_k (by omega), e5, m_s]
    rfl
  · rw [g0_0 (by omega) (by omega) (by omega), e10, m_k (by omega), e9, m_k (by omega), e8, m_k (by omega), e7, m_k (by omega), e6, m_s]
  · rw [g0_m (by omega), e10, m_k (by omega), e9, m_k (by omega), e8, m_k (by omega), e7, m_s]
  · rw [g0_0 (by omega) (by omega) (by omega), e10, m_k (by omega), e9, m_k (by omega), e8, m_s]
  · rw [g0_0 (by omega) (by omega) (by omega), e10, m_k (by omega), e9, m_s]
  · rw [g0_0 (by omega) (by omega) (by omega), e10, m_s]
theorem p_clear {g : ev_G} {S : ev_S} {e N lim : Nat} {A : Nat → Int32} {Q : ev_O → ev_S → Prop}
    (hQ : ∀ z, q_fr S z e 17 → q_pst z.1 e (o_gm0 A N lim) 0 [] → Q (.inl none) z) : ev_Cv g m_X6_clear 3 0 [ev_o 6 e] S Q := by
  refine sg_X6_clear_0 e (sg_X5_clear_0 (e + 1) ?_)
  intro T1 t1 T2 t2 T3 t3 T4 t4 T5 t5
  refine ⟨rfl, ?_⟩
  intro S2 e2 S3 e3 S4 e4 S5 e5 S6 e6
  have xq : ∀ q, q ≠ e → q ≠ e + 16 → S6.1 q = T5.1 q := fun q h1 h2 => by rw [e6, m_r h1, e5, m_r h1, e4, m_r h1, e3, m_r h1, e2, f_r h2]
  have yq : ∀ q, q ≠ e + 1 → q ≠ e + 2 → q ≠ e + 3 → q ≠ e + 4 → T5.1 q = S.1 q := fun q h1 h2 h3 h4 => by rw [t5, m_r h1, t4, m_r h1, t3, f_r h4, t2, f_r h3, t1, f_r h2]
  have z0 : (0 : Int32) = Int32.ofNat 0 := rfl
  refine hQ S6 ⟨by rw [e6, e5, e4, e3, e2, t5, t4, t3, t2, t1]; rfl, fun q hq => by rw [xq q (by omega) (by omega), yq q (by omega) (by omega) (by omega) (by omega)]⟩ ⟨⟨⟨?_, ?_, ?_, ?_, ?_⟩, fun q hq => ⟨?_, fun s hs => ?_, fun t ht => ?_, fun s hs => ?_⟩, fun l hl => absurd hl (by omega)⟩, trivial, ?_⟩
  · rw [g0_0 (by omega) (by omega) (by omega), xq _ (by omega) (by omega), t5, m_k (by omega), t4, m_s]
  · rw [g0_0 (by omega) (by omega) (by omega), xq _ (by omega) (by omega), t5, m_s]
  · rw [g0_0 (by omega) (by omega) (by omega), e6, m_k (by omega), e5, m_k (by omega), e4, m_k (by omega), e3, m_s]
  · rw [g0_0 (by omega) (by omega) (by omega), e6, m_k (by omega), e5, m_s]
  · rw [g0_0 (by omega) (by omega) (by omega), e6, m_s]
  · rw [g0_0 (by omega) (by omega) (by omega), xq _ (by omega) (by omega), t5, m_r (by omega), t4, m_r (by omega), t3, f_r (by omega), t2, f_r (by omega), t1]
    exact f_s hq
  · rw [g0_0 (by omega) (by omega) (by omega), xq _ (by omega) (by omega), t5, m_r (by omega), t4, m_r (by omega), t3]
    exact f_s (by omega)
  · rw [g0_0 (by omega) (by omega) (by omega), xq _ (by omega) (by omega), t5, m_r (by omega), t4, m_r (by omega), t3, f_r (by omega), t2]
    exact f_s (by omega)
  · show _ = Int32.ofNat 0
    rw [e6, m_r (by omega), e5, m_r (by omega), e4, m_r (by omega), e3, m_r (by omega), e2]
    exact f_s (by omega)
  · show _ = Int32.ofNat 0
    rw [e6, m_k (by omega), e5, m_k (by omega), e4, m_s]
    rfl
theorem g_clear {g : ev_G} {S : ev_S} {e N lim : Nat} {A : Nat → Int32} (h8 : N ≤ 8) (hs : q_sh S.1 e) {Q : ev_O → ev_S → Prop}
    (hQ : ∀ z, q_fr S z e 36 → q_gm z.1 e (o_gm0 A N lim) N 0 [] → Q (.inl none) z) : ev_Cv g m_X2_clear 4 0 [ev_o 2 e, ev_i (Int32.ofNat N), ev_i (Int32.ofNat lim)] S Q := by
  refine sg_X2_clear_0 e _ _ ?_
  refine d_clear (A := A) (p := 0) (by omega) h8 hs.1 (fun z1 f1 k1 => ⟨rfl, ?_⟩)
  refine d_clear (A := A) (p := 1) (by omega) h8 (by rw [f1.2 _ (by omega)]; exact hs.2) (fun z2 f2 k2 => ⟨rfl, ?_⟩)
  refine p_clear (A := A) (N := N) (lim := lim) (fun z3 f3 k3 => ⟨rfl, ?_⟩)
  intro S4 e4 S5 e5
  have xq : ∀ q, q ≠ e → S5.1 q = z3.1 q := fun q hq => by rw [e5, m_r hq, e4, m_r hq]
  refine hQ S5 ⟨by rw [e5, e4]; exact f3.1.trans (f2.1.trans f1.1), fun q hq => by rw [xq q (by omega), f3.2 q (by omega), f2.2 q (by omega), f1.2 q (by omega)]⟩ ⟨fun p hp => ?_, q_pst_frame (M := z3.1) (fun q h1 h2 => xq q (by omega)) k3, fun l hl => absurd hl (by omega), ?_, ?_⟩
  · have : p = 0 ∨ p = 1 := by omega
    rcases this with rfl | rfl
    · refine q_dk_frame (M := z1.1) (fun q h1 h2 => ?_) k1
      rw [xq q (by omega), f3.2 q (by omega), f2.2 q (by omega)]
    · refine q_dk_frame (M := z2.1) (fun q h1 h2 => ?_) k2
      rw [xq q (by omega), f3.2 q (by omega)]
  · rw [e5, m_k (by omega), e4, m_s, g0_0 (by omega) (by omega) (by omega)]
  · rw [e5, m_s, g0_0 (by omega) (by omega) (by omega)]
