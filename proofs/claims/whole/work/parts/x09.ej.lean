/-! ===== both: load ===== -/
def o_fil (A : Nat → Int32) (lo hi : Nat) (v : Int32) : Nat → Int32 := fun j => if lo ≤ j ∧ j < hi then v else A j
theorem o_fil_end {A : Nat → Int32} {hi : Nat} {v : Int32} : o_fil A hi hi v = A := by
  funext j
  unfold o_fil
  rw [if_neg (by omega)]
theorem o_fil_step {A : Nat → Int32} {i hi : Nat} {v : Int32} (h : i < hi) : o_fil (upd A i v) (i + 1) hi v = o_fil A i hi v := by
  funext j
  unfold o_fil
  by_cases hj : j = i
  · rw [hj, if_neg (by omega), if_pos (by omega), u_s]
  · by_cases hj2 : i ≤ j ∧ j < hi
    · rw [if_pos (by omega), if_pos hj2]
    · rw [if_neg (by omega), if_neg hj2, u_k hj]
theorem c_begins {g : ev_G} {S : ev_S} (a : Nat) : ev_Fn g m_X10_begins 2 [ev_o 10 a] S none (ev_ur S (a + 1) (o_beg (S.1 (a + 1)))) := by
  intro Q hQ
  have e20 : (2091 : Int32) = Int32.ofNat 2091 := rfl
  have e128 : (128 : Int32) = Int32.ofNat 128 := rfl
  have e248 : (248 : Int32) = Int32.ofNat 248 := rfl
  have e26 : ∀ i : Nat, (26 : Int32) + Int32.ofNat i = Int32.ofNat (26 + i) := fun i => n_add 26 i
  have e514 : ∀ i : Nat, (514 : Int32) + Int32.ofNat i = Int32.ofNat (514 + i) := fun i => n_add 514 i
  have k14 : ((12 : Int32) + 7 * 0) + 2 = Int32.ofNat 14 := by decide
  have k21 : ((12 : Int32) + 7 * 1) + 2 = Int32.ofNat 21 := by decide
  have e0 : (0 : Int32) = Int32.ofNat 0 := rfl
  have key49 : ∀ (k i : Nat) (T : ev_S), i + k = 248 → Q (.inl none) (ev_ur T (a + 1) (upd (upd (o_fil (T.1 (a + 1)) (514 + i) 762 (-1)) 14 (-1)) 21 (-1))) → ev_E g m_X10_begins 2 0 49 [some (ev_o 10 a), some (ev_i (Int32.ofNat i))] [] T Q := by
    intro k
    induction k with
    | zero =>
      intro i T hi hq
      refine sg_X10_begins_49 a _ (j_pos (by rw [e248, n_le (by omega) (by omega)]; omega) ?_)
      have : i = 248 := by omega
      subst this
      rw [show 514 + 248 = 762 from rfl, o_fil_end] at hq
      rw [k14, k21, n_c (by omega), n_c (by omega)]
      refine ⟨(n_vp (by omega) (by omega)).mpr trivial, fun S1 h1 => ⟨(n_vp (by omega) (by omega)).mpr trivial, fun S2 h2 => ?_⟩⟩
      rw [h2, h1, m_u, m_u, r_s, r_rr]
      exact hq
    | succ k ih =>
      intro i T hi hq
      refine sg_X10_begins_49 a _ (j_neg (by rw [e248, n_le (by omega) (by omega)]; omega) ?_)
      rw [e514, n_c (by omega), n_inc]
      refine ⟨(n_vp (by omega) (by omega)).mpr trivial, fun S3 h3 => ih (i + 1) S3 (by omega) ?_⟩
      rw [h3, m_u, r_s, r_rr, show 514 + (i + 1) = 514 + i + 1 by omega, o_fil_step (by omega)]
      exact hq
  have key24 : ∀ (k i : Nat) (T : ev_S), i + k = 128 → Q (.inl none) (ev_ur T (a + 1) (upd (upd (o_fil (o_fil (T.1 (a + 1)) (26 + i) 154 (-1)) 514 762 (-1)) 14 (-1)) 21 (-1))) → ev_E g m_X10_begins 2 0 24 [some (ev_o 10 a), some (ev_i (Int32.ofNat i))] [] T Q := by
    intro k
    induction k with
    | zero =>
      intro i T hi hq
      refine sg_X10_begins_24 a _ (j_pos (by rw [e128, n_le (by omega) (by omega)]; omega) ?_)
      have : i = 128 := by omega
      subst this
      rw [show 26 + 128 = 154 from rfl, o_fil_end] at hq
      rw [e0]
      exact key49 248 0 T rfl hq
    | succ k ih =>
      intro i T hi hq
      refine sg_X10_begins_24 a _ (j_neg (by rw [e128, n_le (by omega) (by omega)]; omega) ?_)
      rw [e26, n_c (by omega), n_inc]
      refine ⟨(n_vp (by omega) (by omega)).mpr trivial, fun S3 h3 => ih (i + 1) S3 (by omega) ?_⟩
      rw [h3, m_u, r_s, r_rr, show 26 + (i + 1) = 26 + i + 1 by omega, o_fil_step (by omega)]
      exact hq
  have key2 : ∀ (k i : Nat) (T : ev_S), i + k = 2091 → Q (.inl none) (ev_ur T (a + 1) (upd (upd (o_fil (o_fil (o_fil (T.1 (a + 1)) i 2091 0) 26 154 (-1)) 514 762 (-1)) 14 (-1)) 21 (-1))) → ev_E g m_X10_begins 2 0 2 [some (ev_o 10 a), some (ev_i (Int32.ofNat i))] [] T Q := by
    intro k
    induction k with
    | zero =>
      intro i T hi hq
      refine sg_X10_begins_2 a _ (j_pos (by rw [e20, n_le (by omega) (by omega)]; omega) ?_)
      have : i = 2091 := by omega
      subst this
      rw [o_fil_end] at hq
      rw [e0]
      exact key24 128 0 T rfl hq
    | succ k ih =>
      intro i T hi hq
      refine sg_X10_begins_2 a _ (j_neg (by rw [e20, n_le (by omega) (by omega)]; omega) ?_)
      rw [n_c (by omega), n_inc]
      refine ⟨(n_vp (by omega) (by omega)).mpr trivial, fun S3 h3 => ih (i + 1) S3 (by omega) ?_⟩
      rw [h3, m_u, r_s, r_rr, o_fil_step (by omega)]
      exact hq
  refine sg_X10_begins_0 a ?_
  rw [e0]
  refine key2 2091 0 S rfl ?_
  have er : upd (upd (o_fil (o_fil (o_fil (S.1 (a + 1)) 0 2091 0) 26 154 (-1)) 514 762 (-1)) 14 (-1)) 21 (-1) = o_beg (S.1 (a + 1)) := by
    funext j
    unfold o_beg
    by_cases h1 : j = 21
    · rw [h1, u_s, if_neg (by omega), if_pos (by omega)]
    rw [u_k h1]
    by_cases h2 : j = 14
    · rw [h2, u_s, if_neg (by omega), if_pos (by omega)]
    rw [u_k h2]
    unfold o_fil
    by_cases h3 : 514 ≤ j ∧ j < 762
    · rw [if_pos h3, if_neg (by omega), if_pos (by omega)]
    rw [if_neg h3]
    by_cases h4 : 26 ≤ j ∧ j < 154
    · rw [if_pos h4, if_neg (by omega), if_pos (by omega)]
    rw [if_neg h4]
    by_cases h5 : 2091 ≤ j
    · rw [if_neg (by omega), if_pos h5]
    · rw [if_pos (by omega), if_neg h5, if_neg (by omega)]
  rw [er]
  exact hQ
/-- what load leaves in the reference -/
def m_ld (S z : ev_S) (a : Nat) : Prop := z.2 = S.2 ∧ (∀ q, q ≠ a → q ≠ a + 1 → q ≠ a + 3 → q ≠ a + 6 → z.1 q = S.1 q) ∧ (∀ i, (i = 8 ∨ 19 ≤ i) → z.1 a i = S.1 a i) ∧ z.1 a 7 = 0 ∧ z.1 a 10 = 0
theorem c_load {g : ev_G} {S : ev_S} {a n : Nat} {T : Nat → Int32} (hn : n ≤ 800) (hm : ∀ j, j < n → ¬ T j = -1) (h10 : S.1 a 10 = Int32.ofNat n) (hT : ∀ j, j < n → S.1 (a + 7) j = T j) {Q : ev_O → ev_S → Prop}
    (q1 : ∀ c p, p_set (S.1 (a + 1)) T n = .inl (c, p) → ¬ c = 0 → ∀ z, m_ld S z a → z.1 a 11 = c → z.1 a 12 = Int32.ofNat p → z.1 a 6 = S.1 a 6 → z.1 (a + 6) = S.1 (a + 6) → (∀ j, j < 2091 → z.1 (a + 1) j = S.1 (a + 1) j) → Q (.inl (some (ev_i c))) z)
    (q2 : ∀ r, p_set (S.1 (a + 1)) T n = .inr r → ∀ N lim np, i_su r N lim np → 1 ≤ np → ∀ z, m_ld S z a → z.1 a 11 = 0 → z.1 a 12 = -1 → z.1 a 6 = 0 → z.1 (a + 6) 0 = 0 → z.1 (a + 6) 1 = 0 → z.1 (a + 1) = r → Q (.inl (some (ev_i 0))) z) :
    ev_Cv g m_X10_load 8 0 [ev_o 10 a] S Q := by
  have e20 : (2091 : Int32) = Int32.ofNat 2091 := rfl
  have e0 : (0 : Int32) = Int32.ofNat 0 := rfl
  have back : ∀ (k i : Nat) (Z : ev_S), i + k = 2091 → Q (.inl (some (ev_i (Z.1 a 11)))) (ev_ur Z (a + 1) (o_rw (Z.1 (a + 1)) (Z.1 (a + 3)) i)) → ev_E g m_X10_load 8 0 53 [some (ev_o 10 a), some (ev_i (Int32.ofNat i))] [] Z Q := by
    intro k
    induction k with
    | zero =>
      intro i Z hi hq
      refine sg_X10_load_53 a _ (j_pos (by rw [e20, n_le (by omega) (by omega)]; omega) ?_)
      have : i = 2091 := by omega
      subst this
      rw [o_rw_end, r_self] at hq
      exact hq
    | succ k ih =>
      intro i Z hi hq
      refine sg_X10_load_53 a _ (j_neg (by rw [e20, n_le (by omega) (by omega)]; omega) ?_)
      rw [n_c (by omega), n_inc]
      refine ⟨(n_vp (by omega) (by omega)).mpr trivial, fun S1 h1 => ih (i + 1) S1 (by omega) ?_⟩
      rw [h1, m_u, r_rr, r_s, r_r (by omega), r_r (by omega), o_rw_step (by omega)]
      exact hq
  have rest : ∀ Z : ev_S, Z = ev_ur (ev_up S a 7 0) (a + 3) (o_rw (S.1 (a + 3)) (S.1 (a + 1)) 0) → ev_Cv g m_X10_begins 2 0 [ev_o 10 a] Z (fun o S1 => o = .inl none ∧ (
      ev_Cv g m_X10_starts 3 0 [ev_o 10 a] S1 (fun o S2 => o = .inl none ∧ (
        ev_Cv g m_X10_readsSetup 7 0 [ev_o 10 a] S2 (fun o S3 => o = .inl none ∧ (
          ev_Cv g m_X10_isWhole 1 0 [ev_o 10 a] S3 (fun o S4 => ∃ v4_ : Bool, o = .inl (some (ev_i (if v4_ = true then 1 else 0))) ∧ (
            (v4_ = true → (
              ∀ S5 : ev_S, S5 = (ev_up S4 a 6 0) → (
                ∀ S6 : ev_S, S6 = (ev_up S5 (a + 6) 0 0) → (
                  ∀ S7 : ev_S, S7 = (ev_up S6 (a + 6) 1 0) → (
                    Q (.inl (some (ev_i 0))) S7))))) ∧
            (¬ (v4_ = true) → (
              ev_E g m_X10_load 8 0 53 [some (ev_o 10 a), some (ev_i 0)] [] S4 Q)))))))))) := by
    intro Z eZ
    have zq : ∀ q, q ≠ a → q ≠ a + 3 → Z.1 q = S.1 q := fun q h1 h2 => by rw [eZ, r_r h2, m_r h1]
    have zi : ∀ i, i ≠ 7 → Z.1 a i = S.1 a i := fun i hi => by rw [eZ, r_r (by omega), m_k hi]
    have z7 : Z.1 a 7 = 0 := by rw [eZ, r_r (by omega), m_s]
    have z3 : ∀ j, j < 2091 → Z.1 (a + 3) j = S.1 (a + 1) j := fun j hj => by rw [eZ, r_s, o_rw_lt hj]
    refine c_begins a _ ⟨rfl, ?_⟩
    rw [zq (a + 1) (by omega) (by omega)]
    generalize hB : ev_ur Z (a + 1) (o_beg (S.1 (a + 1))) = B
    have bq : ∀ q, q ≠ a + 1 → B.1 q = Z.1 q := fun q hq => by rw [← hB, r_r hq]
    have b1 : B.1 (a + 1) = o_beg (S.1 (a + 1)) := by rw [← hB, r_s]
    have b2 : B.2 = S.2 := by rw [← hB, eZ]; rfl
    refine c_start hn hm (by rw [bq _ (by omega), zi _ (by omega)]; exact h10) (fun j hj => by rw [bq _ (by omega), zq _ (by omega) (by omega)]; exact hT j hj) (fun x x1 x2 => ⟨rfl, ?_⟩)
    have xr : x.1 (a + 1) = o_beg (S.1 (a + 1)) := by rw [x1.2.1 _ (by omega)]; exact b1
    have ld : ∀ y y' : ev_S, m_s1 x y a → y' = ev_up (ev_up (ev_up y a 10 0) a 11 (y.1 a 17)) a 12 (y.1 a 18) → m_ld S y' a ∧ (∀ q, q ≠ a → y'.1 q = y.1 q) ∧ y'.1 a 11 = y.1 a 17 ∧ y'.1 a 12 = y.1 a 18 ∧ y'.1 a 6 = S.1 a 6 := by
      intro y y' hy ey
      have yi : ∀ i, (i < 13 ∨ 18 < i) → i ≠ 7 → y.1 a i = S.1 a i := fun i hi h7 => by rw [hy.2.2 i hi, x1.2.2 i hi, bq a (by omega), zi i h7]
      refine ⟨⟨by rw [ey]; exact hy.1.trans (x1.1.trans b2), fun q h0 h1 h3 h6 => ?_, fun i hi => ?_, ?_, ?_⟩, fun q hq => by rw [ey, m_r hq, m_r hq, m_r hq], by rw [ey, m_k (by omega), m_s], by rw [ey, m_s], ?_⟩
      · rw [ey, m_r h0, m_r h0, m_r h0, hy.2.1 q h0 h1, x1.2.1 q h0, bq q h1, zq q h0 h3]
      · rw [ey, m_k (by omega), m_k (by omega), m_k (by omega)]; exact yi i (by omega) (by omega)
      · rw [ey, m_k (by omega), m_k (by omega), m_k (by omega), hy.2.2 7 (by omega), x1.2.2 7 (by omega), bq a (by omega)]; exact z7
      · rw [ey, m_k (by omega), m_k (by omega), m_s]
      · rw [ey, m_k (by omega), m_k (by omega), m_k (by omega)]; exact yi 6 (by omega) (by omega)
    refine c_rset hn hm x2 xr ⟨fun c p hp y hy => ⟨rfl, ?_⟩, fun r hp N lim np hi hnp y hy y17 y18 yr => ⟨rfl, ?_⟩⟩
    · refine sg_X10_isWhole_0 a (fun S1 e1 S2 e2 S3 e3 => j_neg (m_err_7 hy) ⟨false, rfl, fun hf => absurd hf (by decide), fun _ => ?_⟩)
      obtain ⟨l1, l2, l3, l4, l5⟩ := ld y S3 hy.1 (by rw [e3, e2, e1])
      rw [e0]
      refine back 2091 0 S3 rfl ?_
      rw [l3, hy.2.1]
      refine q1 c p hp hy.2.2.1 _ ⟨l1.1, fun q h0 h1 h3 h6 => by rw [r_r h1]; exact l1.2.1 q h0 h1 h3 h6, fun i hi => by rw [r_r (by omega)]; exact l1.2.2.1 i hi, by rw [r_r (by omega)]; exact l1.2.2.2.1, by rw [r_r (by omega)]; exact l1.2.2.2.2⟩ (by rw [r_r (by omega), l3]; exact hy.2.1) (by rw [r_r (by omega), l4]; exact hy.2.2.2) (by rw [r_r (by omega)]; exact l5) ?_ (fun j hj => ?_)
      · rw [r_r (by omega), l2 _ (by omega), hy.1.2.1 _ (by omega) (by omega), x1.2.1 _ (by omega), bq _ (by omega), zq _ (by omega) (by omega)]
      · rw [r_s, o_rw_lt hj, l2 _ (by omega), hy.1.2.1 _ (by omega) (by omega), x1.2.1 _ (by omega), bq _ (by omega), z3 j hj]
    · refine sg_X10_isWhole_0 a (fun S1 e1 S2 e2 S3 e3 => j_pos y17 ⟨true, rfl, fun _ => ?_, fun hf => absurd rfl hf⟩)
      obtain ⟨l1, l2, l3, l4, l5⟩ := ld y S3 hy (by rw [e3, e2, e1])
      intro S5 e5 S6 e6 S7 e7
      have wq : ∀ q, q ≠ a → q ≠ a + 6 → S7.1 q = S3.1 q := fun q h0 h6 => by rw [e7, m_r h6, e6, m_r h6, e5, m_r h0]
      have wi : ∀ i, i ≠ 6 → S7.1 a i = S3.1 a i := fun i hi => by rw [e7, m_r (by omega), e6, m_r (by omega), e5, m_k hi]
      refine q2 r hp N lim np hi hnp S7 ⟨by rw [e7, e6, e5]; exact l1.1, fun q h0 h1 h3 h6 => by rw [wq q h0 h6]; exact l1.2.1 q h0 h1 h3 h6, fun i hi => by rw [wi i (by omega)]; exact l1.2.2.1 i hi, by rw [wi 7 (by omega)]; exact l1.2.2.2.1, by rw [wi 10 (by omega)]; exact l1.2.2.2.2⟩ ?_ ?_ ?_ ?_ ?_ ?_
      · rw [wi _ (by omega), l3]; exact y17
      · rw [wi _ (by omega), l4]; exact y18
      · rw [e7, m_r (by omega), e6, m_r (by omega), e5, m_s]
      · rw [e7, m_k (by omega), e6, m_s]
      · rw [e7, m_s]
      · rw [wq _ (by omega) (by omega), l2 _ (by omega)]; exact yr
  have copy : ∀ (k i : Nat) (Z : ev_S), i + k = 2091 → ev_ur Z (a + 3) (o_rw (Z.1 (a + 3)) (Z.1 (a + 1)) i) = ev_ur (ev_up S a 7 0) (a + 3) (o_rw (S.1 (a + 3)) (S.1 (a + 1)) 0) → ev_E g m_X10_load 8 0 7 [some (ev_o 10 a), some (ev_i (Int32.ofNat i))] [] Z Q := by
    intro k
    induction k with
    | zero =>
      intro i Z hi he
      refine sg_X10_load_7 a _ (j_pos (by rw [e20, n_le (by omega) (by omega)]; omega) ?_)
      have : i = 2091 := by omega
      subst this
      rw [o_rw_end, r_self] at he
      exact rest Z he
    | succ k ih =>
      intro i Z hi he
      refine sg_X10_load_7 a _ (j_neg (by rw [e20, n_le (by omega) (by omega)]; omega) ?_)
      rw [n_c (by omega), n_inc]
      refine ⟨(n_vp (by omega) (by omega)).mpr trivial, fun S8 h8 => ih (i + 1) S8 (by omega) ?_⟩
      rw [h8, m_u, r_rr, r_s, r_r (by omega), o_rw_step (by omega)]
      exact he
  refine sg_X10_load_0 a (fun S1 e1 => ?_)
  rw [e0]
  refine copy 2091 0 S1 rfl ?_
  rw [e1, m_r (by omega), m_r (by omega)]
/-! the class -/
def q_ld (S z : ev_S) (b : Nat) : Prop := z.2 = S.2 ∧ (∀ q, q ≠ b → q ≠ b + 1 → q ≠ b + 93 → (q < b + 11 ∨ b + 47 ≤ q) → (q < b + 52 ∨ b + 88 ≤ q) → z.1 q = S.1 q) ∧ z.1 (b + 1) 1 = 0 ∧ q_sh z.1 (b + 52)
theorem x_load {g : ev_G} {S : ev_S} {b n u : Nat} {T A R : Nat → Int32} (hn : n ≤ 800) (h1 : S.1 (b + 1) 1 = Int32.ofNat n) (hT : ∀ j, j < n → S.1 (b + 2) j = T j) (hs : q_sh S.1 (b + 52)) (hsg : q_sh S.1 (b + 11)) (hh : q_his S.1 (b + 93) R u) {Q : ev_O → ev_S → Prop}
    (q1 : ∀ c p, p_set A T n = .inl (c, p) → ¬ c = 0 → ∀ z, q_ld S z b → (∀ q, (b + 11 ≤ q ∧ q < b + 47) ∨ q = b + 93 → z.1 q = S.1 q) → z.1 b 8 = S.1 b 8 → z.1 b 9 = S.1 b 9 → z.1 b 10 = c → z.1 b 11 = Int32.ofNat p → Q (.inl (some (ev_i c))) z)
    (q2 : ∀ r, p_set A T n = .inr r → ∀ z, q_ld S z b → q_any z.1 (b + 11) r → q_sh z.1 (b + 11) → q_his z.1 (b + 93) R 0 → z.1 b 8 = 0 → z.1 b 9 = 0 → z.1 b 10 = 0 → z.1 b 11 = -1 → Q (.inl (some (ev_i 0))) z) :
    ev_Cv g m_X9_load 8 0 [ev_o 9 b] S Q := by
  refine sg_X9_load_0 b (x_rset (A := A) hn h1 hT hs ⟨fun c p hp z hz => ⟨rfl, fun S2 e2 S3 e3 => ?_⟩, fun r hp N lim np hi hnp z hz z7 z8 zg => ⟨rfl, fun S2 e2 S3 e3 => ?_⟩⟩)
  · have x7 : S2.1 (b + 1) 7 = c := by rw [e2, m_k (by omega)]; exact hz.2.1.1
    have x8 : S2.1 (b + 1) 8 = Int32.ofNat p := by rw [e2, m_k (by omega)]; exact hz.2.1.2.2
    have hc := hz.2.1.2.1
    rw [x7, x8] at e3
    have eb : (ev_up S2 b 10 c).1 b 10 = c := m_s _ _ _ _
    rw [x7, eb]
    refine j_neg hc ?_
    have fq : ∀ q, q ≠ b → q ≠ b + 1 → S3.1 q = z.1 q := fun q h0 h1 => by rw [e3, m_r h0, m_r h0, e2, m_r h1]
    have fb : ∀ i, i ≠ 10 → i ≠ 11 → S3.1 b i = S.1 b i := fun i h10 h11 => by rw [e3, m_k h11, m_k h10, e2, m_r (by omega), hz.1.2 b (by omega) (by omega)]
    refine q1 c p hp hc S3 ⟨by rw [e3, e2]; exact hz.1.1, fun q h0 h1 h93 h11 h52 => by rw [fq q h0 h1]; exact hz.1.2 q h1 h52, by rw [e3, m_r (by omega), m_r (by omega), e2, m_s], ⟨by rw [fq _ (by omega) (by omega)]; exact hz.2.2.1, by rw [fq _ (by omega) (by omega)]; exact hz.2.2.2⟩⟩ (fun q hq => by rw [fq q (by omega) (by omega)]; exact hz.1.2 q (by omega) (by omega)) (fb 8 (by omega) (by omega)) (fb 9 (by omega) (by omega)) (by rw [e3, m_k (by omega), m_s]) (by rw [e3, m_s])
  · have x7 : S2.1 (b + 1) 7 = 0 := by rw [e2, m_k (by omega)]; exact z7
    have x8 : S2.1 (b + 1) 8 = -1 := by rw [e2, m_k (by omega)]; exact z8
    rw [x7, x8] at e3
    have eb : (ev_up S2 b 10 0).1 b 10 = 0 := m_s _ _ _ _
    rw [x7, eb]
    refine j_pos rfl ?_
    have fq : ∀ q, q ≠ b → q ≠ b + 1 → S3.1 q = z.1 q := fun q h0 h1 => by rw [e3, m_r h0, m_r h0, e2, m_r h1]
    have hs11 : q_sh S3.1 (b + 11) := ⟨by rw [fq _ (by omega) (by omega), hz.2 _ (by omega) (by omega)]; exact hsg.1, by rw [fq _ (by omega) (by omega), hz.2 _ (by omega) (by omega)]; exact hsg.2⟩
    have hg3 : q_gm S3.1 (b + 52) r N 0 [] := q_gm_frame (M := z.1) (fun q h1 h2 => fq q (by omega) (by omega)) zg
    obtain ⟨hI, hk⟩ := i_su_IG hi
    refine g_copied (a := b + 11) (b := b + 52) (by omega) hI hs11.1 hs11.2 hg3 (fun y y1 y2 y3 y4 => ⟨rfl, fun S5 e5 S6 e6 S7 e7 => ?_⟩)
    have y10 : y.1 b 10 = 0 := by rw [y1.2 b (by omega), e3, m_k (by omega), m_s]
    rw [y10]
    have wq : ∀ q, q ≠ b → q ≠ b + 93 → S7.1 q = y.1 q := fun q h0 h93 => by rw [e7, m_r h0, e6, m_r h0, e5, m_r h93]
    refine q2 r hp S7 ⟨by rw [e7, e6, e5]; exact y1.1.trans (by rw [e3, e2]; exact hz.1), fun q h0 h1 h93 h11 h52 => by rw [wq q h0 h93, y1.2 q (by omega), fq q h0 h1]; exact hz.2 q h1 h52, by rw [wq _ (by omega) (by omega), y1.2 _ (by omega), e3, m_r (by omega), m_r (by omega), e2, m_s], ?_⟩ ⟨N, lim, np, 0, 0, [], hI, by omega, by omega, q_gm_frame (M := y.1) (fun q h1 h2 => wq q (by omega) (by omega)) y4, hk⟩ ⟨by rw [wq _ (by omega) (by omega)]; exact y2, by rw [wq _ (by omega) (by omega)]; exact y3⟩ ?_ ?_ ?_ ?_ ?_
    · have := q_sh_gm hg3
      exact ⟨by rw [wq _ (by omega) (by omega), y1.2 _ (by omega)]; exact this.1, by rw [wq _ (by omega) (by omega), y1.2 _ (by omega)]; exact this.2⟩
    · obtain ⟨a1, a2, w, a3, a4, a5, a6⟩ := hh
      have f93 : ∀ q, b + 93 ≤ q → q ≠ b + 93 → S7.1 q = S.1 q := fun q h1 h2 => by rw [wq q (by omega) h2, y1.2 q (by omega), fq q (by omega) (by omega), hz.2 q (by omega) (by omega)]
      refine ⟨by rw [e7, m_r (by omega), e6, m_r (by omega), e5, m_s]; rfl, by omega, w, a3, ?_, fun i hi => ?_, fun i hi => absurd hi (by omega)⟩
      · rw [e7, m_r (by omega), e6, m_r (by omega), e5, m_k (by omega), y1.2 _ (by omega), fq _ (by omega) (by omega), hz.2 _ (by omega) (by omega)]; exact a4
      · obtain ⟨s1, s2⟩ := a5 i hi
        exact ⟨by rw [f93 _ (by omega) (by omega)]; exact s1, by rw [f93 _ (by omega) (by omega)]; exact s2⟩
    · rw [e7, m_k (by omega), e6, m_s]
    · rw [e7, m_s]
    · rw [e7, m_k (by omega), e6, m_k (by omega), e5, m_r (by omega)]; exact y10
    · rw [e7, m_k (by omega), e6, m_k (by omega), e5, m_r (by omega), y1.2 b (by omega), e3, m_s]
