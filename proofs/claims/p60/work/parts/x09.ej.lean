/-! ===== both: load ===== -/
def o_fil (A : Nat → Int32) (lo hi : Nat) (v : Int32) : Nat → Int32 := fun j => if lo ≤ j ∧ j < hi then v else A j
theorem o_fil_end {A : Nat → Int32} {hi : Nat} {v : Int32} : o_fil A hi hi v = A := by
  funext j
  unfold o_fil
  rw [if_neg (by omega)]
theorem o_fil_step {A : Nat → Int32} {i hi : Nat} {v : Int32} (h : i < hi) : o_fil (upd A i v) (i + 1) hi v = o_fil A i hi v := by
  funext j
  unfold o_fil
  by_cases hj : j = i
  · rw [hj, if_neg (by omega), if_pos (by omega), u_s]
  · by_cases hj2 : i ≤ j ∧ j < hi
    · rw [if_pos (by omega), if_pos hj2]
    · rw [if_neg (by omega), if_neg hj2, u_k hj]
/-- what load leaves in the reference -/
def m_ld (S z : ev_S) (a : Nat) : Prop := z.2 = S.2 ∧ (∀ q, q ≠ a → q ≠ a + 1 → q ≠ a + 3 → q ≠ a + 6 → z.1 q = S.1 q) ∧ (∀ i, (i = 8 ∨ 19 ≤ i) → z.1 a i = S.1 a i) ∧ z.1 a 7 = 0 ∧ z.1 a 10 = 0
/-! the class -/
def q_ld (S z : ev_S) (b : Nat) : Prop := z.2 = S.2 ∧ (∀ q, q ≠ b → q ≠ b + 1 → q ≠ b + 93 → (q < b + 11 ∨ b + 47 ≤ q) → (q < b + 52 ∨ b + 88 ≤ q) → z.1 q = S.1 q) ∧ z.1 (b + 1) 1 = 0 ∧ q_sh z.1 (b + 52)
theorem x_load {g : ev_G} {S : ev_S} {b n u : Nat} {T A R : Nat → Int32} (hn : n ≤ 800) (h1 : S.1 (b + 1) 1 = Int32.ofNat n) (hT : ∀ j, j < n → S.1 (b + 2) j = T j) (hs : q_sh S.1 (b + 52)) (hsg : q_sh S.1 (b + 11)) (hh : q_his S.1 (b + 93) R u) {Q : ev_O → ev_S → Prop}
    (q1 : ∀ c p, p_set A T n = .inl (c, p) → ¬ c = 0 → ∀ z, q_ld S z b → (∀ q, (b + 11 ≤ q ∧ q < b + 47) ∨ q = b + 93 → z.1 q = S.1 q) → z.1 b 8 = S.1 b 8 → z.1 b 9 = S.1 b 9 → z.1 b 10 = c → z.1 b 11 = Int32.ofNat p → Q (.inl (some (ev_i c))) z)
    (q2 : ∀ r, p_set A T n = .inr r → ∀ z, q_ld S z b → q_any z.1 (b + 11) r → q_sh z.1 (b + 11) → q_his z.1 (b + 93) R 0 → z.1 b 8 = 0 → z.1 b 9 = 0 → z.1 b 10 = 0 → z.1 b 11 = -1 → Q (.inl (some (ev_i 0))) z) :
    ev_Cv g m_X9_load 8 0 [ev_o 9 b] S Q := by
  refine sg_X9_load_0 b (x_rset (A := A) hn h1 hT hs ⟨fun c p hp z hz => ⟨rfl, fun S2 e2 S3 e3 => ?_⟩, fun r hp N lim np hi hnp z hz z7 z8 zg => ⟨rfl, fun S2 e2 S3 e3 => ?_⟩⟩)
  · have x7 : S2.1 (b + 1) 7 = c := by rw [e2, m_k (by omega)]; exact hz.2.1.1
    have x8 : S2.1 (b + 1) 8 = Int32.ofNat p := by rw [e2, m_k (by omega)]; exact hz.2.1.2.2
    have hc := hz.2.1.2.1
    rw [x7, x8] at e3
    have eb : (ev_up S2 b 10 c).1 b 10 = c := m_s _ _ _ _
    rw [x7, eb]
    refine j_neg hc ?_
    have fq : ∀ q, q ≠ b → q ≠ b + 1 → S3.1 q = z.1 q := fun q h0 h1 => by rw [e3, m_r h0, m_r h0, e2, m_r h1]
    have fb : ∀ i, i ≠ 10 → i ≠ 11 → S3.1 b i = S.1 b i := fun i h10 h11 => by rw [e3, m_k h11, m_k h10, e2, m_r (by omega), hz.1.2 b (by omega) (by omega)]
    refine q1 c p hp hc S3 ⟨by rw [e3, e2]; exact hz.1.1, fun q h0 h1 h93 h11 h52 => by rw [fq q h0 h1]; exact hz.1.2 q h1 h52, by rw [e3, m_r (by omega), m_r (by omega), e2, m_s], ⟨by rw [fq _ (by omega) (by omega)]; exact hz.2.2.1, by rw [fq _ (by omega) (by omega)]; exact hz.2.2.2⟩⟩ (fun q hq => by rw [fq q (by omega) (by omega)]; exact hz.1.2 q (by omega) (by omega)) (fb 8 (by omega) (by omega)) (fb 9 (by omega) (by omega)) (by rw [e3, m_k (by omega), m_s]) (by rw [e3, m_s])
  · have x7 : S2.1 (b + 1) 7 = 0 := by rw [e2, m_k (by omega)]; exact z7
    have x8 : S2.1 (b + 1) 8 = -1 := by rw [e2, m_k (by omega)]; exact z8
    rw [x7, x8] at e3
    have eb : (ev_up S2 b 10 0).1 b 10 = 0 := m_s _ _ _ _
    rw [x7, eb]
    refine j_pos rfl ?_
    have fq : ∀ q, q ≠ b → q ≠ b + 1 → S3.1 q = z.1 q := fun q h0 h1 => by rw [e3, m_r h0, m_r h0, e2, m_r h1]
    have hs11 : q_sh S3.1 (b + 11) := ⟨by rw [fq _ (by omega) (by omega), hz.2 _ (by omega) (by omega)]; exact hsg.1, by rw [fq _ (by omega) (by omega), hz.2 _ (by omega) (by omega)]; exact hsg.2⟩
    have hg3 : q_gm S3.1 (b + 52) r N 0 [] := q_gm_frame (M := z.1) (fun q h1 h2 => fq q (by omega) (by omega)) zg
    obtain ⟨hI, hk⟩ := i_su_IG hi
    refine g_copied (a := b + 11) (b := b + 52) (by omega) hI hs11.1 hs11.2 hg3 (fun y y1 y2 y3 y4 => ⟨rfl, fun S5 e5 S6 e6 S7 e7 => ?_⟩)
    have y10 : y.1 b 10 = 0 := by rw [y1.2 b (by omega), e3, m_k (by omega), m_s]
    rw [y10]
    have wq : ∀ q, q ≠ b → q ≠ b + 93 → S7.1 q = y.1 q := fun q h0 h93 => by rw [e7, m_r h0, e6, m_r h0, e5, m_r h93]
    refine q2 r hp S7 ⟨by rw [e7, e6, e5]; exact y1.1.trans (by rw [e3, e2]; exact hz.1), fun q h0 h1 h93 h11 h52 => by rw [wq q h0 h93, y1.2 q (by omega), fq q h0 h1]; exact hz.2 q h1 h52, by rw [wq _ (by omega) (by omega), y1.2 _ (by omega), e3, m_r (by omega), m_r (by omega), e2, m_s], ?_⟩ ⟨N, lim, np, 0, 0, [], hI, by omega, by omega, q_gm_frame (M := y.1) (fun q h1 h2 => wq q (by omega) (by omega)) y4, hk⟩ ⟨by rw [wq _ (by omega) (by omega)]; exact y2, by rw [wq _ (by omega) (by omega)]; exact y3⟩ ?_ ?_ ?_ ?_ ?_
    · have := q_sh_gm hg3
      exact ⟨by rw [wq _ (by omega) (by omega), y1.2 _ (by omega)]; exact this.1, by rw [wq _ (by omega) (by omega), y1.2 _ (by omega)]; exact this.2⟩
    · obtain ⟨a1, a2, w, a3, a4, a5, a6⟩ := hh
      have f93 : ∀ q, b + 93 ≤ q → q ≠ b + 93 → S7.1 q = S.1 q := fun q h1 h2 => by rw [wq q (by omega) h2, y1.2 q (by omega), fq q (by omega) (by omega), hz.2 q (by omega) (by omega)]
      refine ⟨by rw [e7, m_r (by omega), e6, m_r (by omega), e5, m_s]; rfl, by omega, w, a3, ?_, fun i hi => ?_, fun i hi => absurd hi (by omega)⟩
      · rw [e7, m_r (by omega), e6, m_r (by omega), e5, m_k (by omega), y1.2 _ (by omega), fq _ (by omega) (by omega), hz.2 _ (by omega) (by omega)]; exact a4
      · obtain ⟨s1, s2⟩ := a5 i hi
        exact ⟨by rw [f93 _ (by omega) (by omega)]; exact s1, by rw [f93 _ (by omega) (by omega)]; exact s2⟩
    · rw [e7, m_k (by omega), e6, m_s]
    · rw [e7, m_s]
    · rw [e7, m_k (by omega), e6, m_k (by omega), e5, m_r (by omega)]; exact y10
    · rw [e7, m_k (by omega), e6, m_k (by omega), e5, m_r (by omega), y1.2 b (by omega), e3, m_s]
