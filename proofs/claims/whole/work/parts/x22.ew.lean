/-! ===== a script, whole: the class ===== -/
theorem q_his_fr {M M' : Nat → Nat → Int32} {a u : Nat} {R : Nat → Int32} (f : ∀ q, a ≤ q → q < a + 330 → M' q = M q) (h : q_his M a R u) : q_his M' a R u := by
  obtain ⟨h1, h2, w, h3, h4, h5, h6⟩ := h
  refine ⟨by rw [f _ (by omega) (by omega)]; exact h1, h2, w, h3, by rw [f _ (by omega) (by omega)]; exact h4, fun i hi => ?_, fun i hi => ?_⟩
  · have := h5 i hi
    unfold q_sh at this ⊢
    rw [f _ (by omega) (by omega), f _ (by omega) (by omega)]
    exact this
  · obtain ⟨r, r1, r2⟩ := h6 i hi
    exact ⟨r, r1, q_any_frame (M := M) (fun q q1 q2 => f q (by omega) (by omega)) r2⟩
theorem x_script {g : ev_G} {S : ev_S} {b n u : Nat} {T r R : Nat → Int32} (hn : n ≤ 800) (h1 : S.1 (b + 1) 1 = Int32.ofNat n) (hT : ∀ j, j < n → S.1 (b + 2) j = T j) (hg : q_any S.1 (b + 11) r) (hh : q_his S.1 (b + 93) R u) {Q : ev_O → ev_S → Prop}
    (q1 : ∀ e p, p_scr T n = .inl (e, p) → ¬ e = 0 → ∀ z, z.2 = S.2 → (∀ q, q ≠ b → q ≠ b + 1 → (q < b + 3 ∨ b + 9 ≤ q) → z.1 q = S.1 q) → z.1 (b + 1) 1 = 0 → (∀ j, j ≠ 10 → j ≠ 11 → z.1 b j = S.1 b j) → z.1 b 10 = e → z.1 b 11 = Int32.ofNat p → Q (.inl (some (ev_i (-1)))) z)
    (q2 : ∀ L c, p_scr T n = .inr (L, c) → ∀ z, z.2 = S.2 → (∀ q, q ≠ b → q ≠ b + 1 → (q < b + 3 ∨ b + 9 ≤ q) → (q < b + 11 ∨ b + 52 ≤ q) → (q < b + 93 ∨ b + 423 ≤ q) → z.1 q = S.1 q) → z.1 (b + 1) 1 = 0 → (∀ j, j ≠ 10 → j ≠ 11 → z.1 b j = S.1 b j) → z.1 b 10 = 0 → z.1 b 11 = -1 →
      q_any z.1 (b + 11) (x_seq (x_item 2) L r 0).2.1 → q_his z.1 (b + 93) (o_kp R r u) (o_ku u) → Q (.inl (some (ev_i (Int32.ofNat (x_seq (x_item 2) L r 0).2.2)))) z) :
    ev_Cv g m_X9_runScript 9 0 [ev_o 9 b] S Q := by
  refine sg_X9_runScript_0 b (t_read hn h1 hT (fun e p he y y1 y2 => ⟨rfl, fun S2 e2 S3 e3 => ?_⟩) (fun L c he y y1 y7 y8 y5 hsz hcd => ⟨rfl, fun S2 e2 S3 e3 => ?_⟩))
  · have s7 : S2.1 (b + 1) 7 = e := by rw [e2, m_k (by omega)]; exact y2.1
    have s8 : S2.1 (b + 1) 8 = Int32.ofNat p := by rw [e2, m_k (by omega)]; exact y2.2.2
    rw [m_s, s7]
    rw [s7, s8] at e3
    refine j_neg y2.2.1 (q1 e p he y2.2.1 S3 ?_ ?_ ?_ ?_ ?_ ?_)
    · rw [e3, e2]; exact y1.1
    · intro q h0 h1 h2
      rw [e3, m_r h0, m_r h0, e2, m_r h1]
      exact y1.2 q h1 h2
    · rw [e3, m_r (by omega), m_r (by omega), e2, m_s]
    · intro j j1 j2
      rw [e3, m_k j2, m_k j1, e2, m_r (by omega), y1.2 _ (by omega) (by omega)]
    · rw [e3, m_k (by omega), m_s]
    · rw [e3, m_s]
  · have s7 : S2.1 (b + 1) 7 = 0 := by rw [e2, m_k (by omega)]; exact y7
    have s8 : S2.1 (b + 1) 8 = -1 := by rw [e2, m_k (by omega)]; exact y8
    rw [m_s, s7]
    rw [s7, s8] at e3
    refine j_pos rfl ?_
    have f3 : ∀ q, q ≠ b → q ≠ b + 1 → S3.1 q = y.1 q := fun q h0 h1 => by rw [e3, m_r h0, m_r h0, e2, m_r h1]
    have f3' : ∀ q, q ≠ b → q ≠ b + 1 → (q < b + 3 ∨ b + 9 ≤ q) → S3.1 q = S.1 q := fun q h0 h1 h2 => by rw [f3 q h0 h1]; exact y1.2 q h1 h2
    have g3 : q_any S3.1 (b + 11) r := q_any_frame (M := S.1) (fun q h1 h2 => f3' q (by omega) (by omega) (by omega)) hg
    have h3 : q_his S3.1 (b + 93) R u := q_his_fr (M := S.1) (fun q h1 h2 => f3' q (by omega) (by omega) (by omega)) hh
    refine h_remember (by omega) h3 g3 (fun w w1 w2 => ⟨rfl, ?_⟩)
    have fw : ∀ q, q < b + 93 ∨ b + 423 ≤ q → w.1 q = S3.1 q := fun q hq => w1.2 q (by omega)
    have hl : w.1 (b + 3) 5 = Int32.ofNat (ls_sz (at_sz 2) L) := by rw [fw _ (by omega), f3 _ (by omega) (by omega)]; exact y5
    have hcw : q_cds (at_sz 2) (q_code (w.1 (b + 4)) (w.1 (b + 5)) (w.1 (b + 6)) 2) 0 L := by
      rw [fw _ (by omega), f3 _ (by omega) (by omega), fw _ (by omega), f3 _ (by omega) (by omega), fw _ (by omega), f3 _ (by omega) (by omega)]
      exact hcd
    have gw : q_any w.1 (b + 11) r := q_any_frame (M := S3.1) (fun q h1 h2 => fw q (by omega)) g3
    have fin : ∀ z, TD w b (x_seq (x_item 2) L r 0).2.1 (x_seq (x_item 2) L r 0).2.2 z → Q (.inl (some (ev_i (Int32.ofNat (x_seq (x_item 2) L r 0).2.2)))) z := by
      intro z hz
      have fz : ∀ q, (q < b + 7 ∨ (b + 8 ≤ q ∧ q < b + 11) ∨ b + 52 ≤ q) → z.1 q = w.1 q := hz.1.2
      refine q2 L c he z ?_ ?_ ?_ ?_ ?_ ?_ hz.2.1 ?_
      · rw [hz.1.1, w1.1, e3, e2]; exact y1.1
      · intro q h0 h1 h2 h3 h4
        rw [fz q (by omega), fw q (by omega), f3' q h0 h1 h2]
      · rw [fz _ (by omega), fw _ (by omega), e3, m_r (by omega), m_r (by omega), e2, m_s]
      · intro j j1 j2
        rw [fz _ (by omega), fw _ (by omega), e3, m_k j2, m_k j1, e2, m_r (by omega), y1.2 _ (by omega) (by omega)]
      · rw [fz _ (by omega), fw _ (by omega), e3, m_k (by omega), m_s]
      · rw [fz _ (by omega), fw _ (by omega), e3, m_s]
      · exact q_his_fr (M := w.1) (fun q h1 h2 => fz q (by omega)) w2
    have t2 : TLs g w b (ls_sz (at_sz 2) L) 2 := tls_of (tit_s hl hsz (tls_of (tit_s hl hsz (tls_of (tit_0 hl hsz)))))
    have hw2 : wl 2 = 400 := rfl
    have e24 : (24060 : Int32) = Int32.ofNat 24060 := rfl
    refine t2 L 0 0 0 r w Q ⟨⟨rfl, fun _ _ => rfl⟩, gw, by omega⟩ (by omega) (p_scr_ok he) hcw (by omega) (by rw [hw2]; omega) (fun z hz _ => ⟨fun _ hk st hst => ?_, fun _ => fin z hz⟩)
    have hlz : z.1 (b + 3) 5 = Int32.ofNat (ls_sz (at_sz 2) L) := by rw [hz.1.2 _ (by omega)]; exact hl
    rw [Nat.zero_add]
    refine sg_X9_runScript_48 b _ _ _ ⟨fun _ => fin z hz, fun _ => j_pos ?_ (fin z hz)⟩
    rw [hlz, n_le (by omega) (by omega)]
    exact Nat.le_refl _
/-! the reference -/
theorem c_whole_ok {g : ev_G} {S : ev_S} {a : Nat} (h : S.1 a 17 = 0) {Q : ev_O → ev_S → Prop} (hQ : ∀ z, z = ev_up (ev_up (ev_up S a 10 0) a 11 0) a 12 (S.1 a 18) → Q (.inl (some (ev_i 1))) z) : ev_Cv g m_X10_isWhole 1 0 [ev_o 10 a] S Q := by
  refine sg_X10_isWhole_0 a (fun S1 e1 S2 e2 S3 e3 => j_pos h (hQ S3 ?_))
  rw [e3, e2, e1, h]
theorem c_whole_e {g : ev_G} {S : ev_S} {a : Nat} (h : ¬ S.1 a 17 = 0) {Q : ev_O → ev_S → Prop} (hQ : ∀ z, z = ev_up (ev_up (ev_up S a 10 0) a 11 (S.1 a 17)) a 12 (S.1 a 18) → Q (.inl (some (ev_i 0))) z) : ev_Cv g m_X10_isWhole 1 0 [ev_o 10 a] S Q := by
  refine sg_X10_isWhole_0 a (fun S1 e1 S2 e2 S3 e3 => j_neg h (hQ S3 ?_))
  rw [e3, e2, e1]
theorem c_script {g : ev_G} {S : ev_S} {a n u : Nat} {T : Nat → Int32} (hn : n ≤ 800) (hm : ∀ j, j < n → ¬ T j = -1) (h10 : S.1 a 10 = Int32.ofNat n) (hT : ∀ j, j < n → S.1 (a + 7) j = T j) (ho : o_any (S.1 (a + 1))) (hu : u ≤ 8) (h6 : S.1 a 6 = Int32.ofNat u) (h8 : S.1 a 8 = -1) {Q : ev_O → ev_S → Prop}
    (q1 : ∀ e p, p_scr T n = .inl (e, p) → ¬ e = 0 → ∀ z, z.2 = S.2 → (∀ q, q ≠ a → q ≠ a + 8 → q ≠ a + 9 → z.1 q = S.1 q) → (∀ i, (i < 7 ∨ (8 ≤ i ∧ i < 10) ∨ (19 ≤ i ∧ i < 21) ∨ 22 ≤ i) → z.1 a i = S.1 a i) → z.1 a 10 = 0 → z.1 a 11 = e → z.1 a 12 = Int32.ofNat p → Q (.inl (some (ev_i (-1)))) z)
    (q2 : ∀ L c, p_scr T n = .inr (L, c) → ∀ z, z.2 = S.2 → (∀ q, q ≠ a → q ≠ a + 1 → q ≠ a + 4 → q ≠ a + 8 → q ≠ a + 9 → z.1 q = S.1 q) → (∀ i, (i < 6 ∨ (8 ≤ i ∧ i < 10) ∨ (19 ≤ i ∧ i < 21) ∨ 26 ≤ i) → z.1 a i = S.1 a i) → z.1 a 10 = 0 → z.1 a 11 = 0 → z.1 a 12 = -1 → z.1 a 23 = 0 →
      z.1 (a + 1) = (x_seq (x_item 2) L (S.1 (a + 1)) 0).2.1 → o_any (x_seq (x_item 2) L (S.1 (a + 1)) 0).2.1 → z.1 (a + 4) = o_kp (S.1 (a + 4)) (S.1 (a + 1)) u → z.1 a 6 = Int32.ofNat (o_ku u) → Q (.inl (some (ev_i (Int32.ofNat (x_seq (x_item 2) L (S.1 (a + 1)) 0).2.2)))) z) :
    ev_Cv g m_X10_runScript 51 0 [ev_o 10 a] S Q := by
  refine sg_X10_runScript_0 a (fun S1 e1 => c_start (T := T) hn hm (by rw [e1, m_k (by omega)]; exact h10) (fun j hj => by rw [e1, m_r (by omega)]; exact hT j hj) (fun z z1 z2 => ⟨rfl, fun S3 e3 => ?_⟩))
  have t3 : m_tk S3.1 a n T 0 := by
    obtain ⟨a1, a2, a3, a4, a5, a6, a7, a8⟩ := z2
    have f : ∀ i, i ≠ 21 → S3.1 a i = z.1 a i := fun i hi => by rw [e3, m_k hi]
    exact ⟨by rw [f _ (by omega)]; exact a1, fun j hj => by rw [e3, m_r (by omega)]; exact a2 j hj, by rw [f _ (by omega)]; exact a3, by rw [f _ (by omega)]; exact a4, by rw [f _ (by omega)]; exact a5, by rw [f _ (by omega)]; exact a6, by rw [f _ (by omega)]; exact a7, by rw [f _ (by omega)]; exact a8⟩
  have fr3 : ∀ q, q ≠ a → S3.1 q = S.1 q := fun q hq => by rw [e3, m_r hq, z1.2.1 q hq, e1, m_r hq]
  have fk3 : ∀ i, (i < 13 ∨ 18 < i) → i ≠ 7 → i ≠ 21 → S3.1 a i = S.1 a i := fun i hi h7 h21 => by rw [e3, m_k h21, z1.2.2 i hi, e1, m_k h7]
  have f2 : S3.2 = S.2 := by rw [e3, show (ev_up z a 21 0).2 = z.2 from rfl, z1.1, e1]; rfl
  have rl2 : RLst g S3 a n T 2 := rlst_of hn (rone_s hn hm (by omega) (rlst_of hn (rone_s hn hm (by omega) (rlst_of hn (rone_0 hn hm)))))
  have hD : 20 ≤ Dl 2 := by unfold Dl; omega
  have e50 : (50 : Nat) = Dl 2 + 3 := rfl
  have fin1 : ∀ e p, p_scr T n = .inl (e, p) → ∀ y, m_er S3 y a e p → Q (.inl (some (ev_i (-1)))) (ev_up (ev_up (ev_up y a 10 0) a 11 (y.1 a 17)) a 12 (y.1 a 18)) := by
    intro e p he y hy
    obtain ⟨y1, y2⟩ := hy
    refine q1 e p he y2.2.1 _ (y1.1.trans f2) ?_ ?_ ?_ ?_ ?_
    · intro q h0 h8 h9
      rw [m_r h0, m_r h0, m_r h0, y1.2.1 q h0 h8 h9, fr3 q h0]
    · intro i hi
      rw [m_k (by omega), m_k (by omega), m_k (by omega), y1.2.2 i (by omega) (by omega), fk3 i (by omega) (by omega) (by omega)]
    · rw [m_k (by omega), m_k (by omega), m_s]
    · rw [m_k (by omega), m_s]; exact y2.1
    · rw [m_s]; exact y2.2.2
  have err : ∀ (X : ev_S → Prop) e p, p_scr T n = .inl (e, p) → ∀ y, m_er S3 y a e p → ev_Cv g m_X10_isWhole 1 0 [ev_o 10 a] y (fun o S6 => ∃ v4_ : Bool, o = .inl (some (ev_i (if v4_ = true then 1 else 0))) ∧ ((v4_ = true → X S6) ∧ (¬ (v4_ = true) → Q (.inl (some (ev_i (-1)))) S6))) := by
    intro X e p he y hy
    refine c_whole_e (m_er_7 hy) (fun w ew => ⟨false, rfl, fun hf => absurd hf (by decide), fun _ => ?_⟩)
    rw [ew]
    exact fin1 e p he y hy
  refine sg_X10_readsCommands_0 hD a _ (rl2 _ 801 0 0 S3 (by omega) (by omega) (by omega) t3 (by rw [e3, m_s]; rfl) (m_sr_refl S3 a) (fun e p he y hy => ⟨rfl, ?_⟩) (fun L c' s' he k1 k2 k3 k4 k5 y y1 y2 y3 y4 y5 y6 => ⟨rfl, ?_⟩))
  · have hs : p_scr T n = .inl (e, p) := by unfold p_scr; rw [he]; rfl
    refine ⟨fun _ => c_must_e (m_er_7 hy) ⟨false, rfl, err _ e p hs y hy⟩, fun _ => c_must_e (m_er_7 hy) ⟨false, rfl, err _ e p hs y hy⟩⟩
  · have h15 := y1.2.2.2.2.2.1
    have h17 := y1.2.2.1
    have h18 := y1.2.2.2.1
    rw [h15]
    by_cases hK : x_K T n s' = 0
    · have hs : p_scr T n = .inr (L, c') := by unfold p_scr; rw [he]; simp only [p_bd]; rw [if_pos hK]
      refine j_pos hK (c_must_t h17 ⟨true, rfl, c_whole_ok h17 (fun w ew => ⟨true, rfl, fun _ => ?_, fun hf => absurd rfl hf⟩)⟩)
      have w6 : w.1 a 6 = Int32.ofNat u := by rw [ew, m_k (by omega), m_k (by omega), m_k (by omega), y3.2.2 _ (by omega) (by omega), fk3 _ (by omega) (by omega) (by omega)]; exact h6
      refine c_keeps a u hu w6 _ ⟨rfl, fun S8 e8 S9 e9 => ?_⟩
      rw [h18] at ew
      -- where the commands begin
      have rq : ∀ q, q ≠ a → q ≠ a + 4 → S9.1 q = y.1 q := fun q h0 h4 => by rw [e9, m_r h0, e8, m_r h0, m_r h0, r_r h4, ew, m_r h0, m_r h0, m_r h0]
      have rk : ∀ i, i ≠ 6 → i ≠ 10 → i ≠ 11 → i ≠ 12 → i ≠ 22 → i ≠ 23 → S9.1 a i = y.1 a i := fun i i6 i10 i11 i12 i22 i23 => by rw [e9, m_k i22, e8, m_k i23, m_k i6, r_r (by omega), ew, m_k i12, m_k i11, m_k i10]
      have r1 : S9.1 (a + 1) = S.1 (a + 1) := by rw [rq _ (by omega) (by omega), y3.2.1 _ (by omega) (by omega) (by omega), fr3 _ (by omega)]
      have wa : ∀ q, q ≠ a → w.1 q = y.1 q := fun q h0 => by rw [ew, m_r h0, m_r h0, m_r h0]
      have r4 : S9.1 (a + 4) = o_kp (S.1 (a + 4)) (S.1 (a + 1)) u := by
        rw [e9, m_r (by omega), e8, m_r (by omega), m_r (by omega), r_s, wa _ (by omega), wa _ (by omega), y3.2.1 _ (by omega) (by omega) (by omega), y3.2.1 _ (by omega) (by omega) (by omega), fr3 _ (by omega), fr3 _ (by omega)]
      have s6 : S9.1 a 6 = Int32.ofNat (o_ku u) := by rw [e9, m_k (by omega), e8, m_k (by omega), m_s]
      have s23 : S9.1 a 23 = 1 := by rw [e9, m_k (by omega), e8, m_s]
      have s22 : S9.1 a 22 = 0 := by rw [e9, m_s]
      have s8 : S9.1 a 8 = -1 := by rw [rk _ (by omega) (by omega) (by omega) (by omega) (by omega) (by omega), y3.2.2 _ (by omega) (by omega), fk3 _ (by omega) (by omega) (by omega)]; exact h8
      have k8 : o_ku u ≤ 8 := by unfold o_ku; split <;> omega
      have h23 : ¬ S9.1 a 23 = 0 := by rw [s23]; decide
      have c2 : CLs g S9 a 49 2 := cls_of (by omega) (cit_s (D := 48) (by omega) k8 s6 s8 h23 (cls_of (by omega) (cit_s (D := 47) (by omega) k8 s6 s8 h23 (cls_of (by omega) (cit_0 (by omega) k8 s6 s8 h23)))))
      have x21 : (ev_up (ev_ur w (a + 4) (o_kp (w.1 (a + 4)) (w.1 (a + 1)) u)) a 6 (Int32.ofNat (o_ku u))).1 a 21 = Int32.ofNat (0 + ls_sz (at_rz 2) L) := by
        rw [m_k (by omega), r_r (by omega), ew, m_k (by omega), m_k (by omega), m_k (by omega), y2, k5]
      have hcd : q_cds (at_rz 2) (r_code (S9.1 (a + 8)) (S9.1 (a + 9)) 2) 0 L := by rw [rq _ (by omega) (by omega), rq _ (by omega) (by omega)]; exact y6
      rw [x21]
      refine sg_X10_doesAll_0 (D := 49) (by omega) a _ _ (c2 L 0 0 (S.1 (a + 1)) S9 _ ⟨m_dz_refl S9 a, r1, ho, s22, by omega⟩ (p_scr_ok hs) hcd (by omega) (fun v hv => ⟨_, rfl, ?_⟩))
      have fin : ∀ S11 : ev_S, S11 = ev_up v a 23 0 → ∀ S12 : ev_S, S12 = ev_up S11 a 7 0 → Q (.inl (some (ev_i (v.1 a 22)))) S12 := by
        intro S11 e11 S12 e12
        obtain ⟨v1, v2, v3, v4, v5⟩ := hv
        rw [v4]
        have fv : ∀ i, i ≠ 7 → i ≠ 23 → S12.1 a i = v.1 a i := fun i i7 i23 => by rw [e12, m_k i7, e11, m_k i23]
        have fq : ∀ q, q ≠ a → S12.1 q = v.1 q := fun q h0 => by rw [e12, m_r h0, e11, m_r h0]
        refine q2 L c' hs S12 ?_ ?_ ?_ ?_ ?_ ?_ ?_ ?_ v3 ?_ ?_
        · rw [e12, e11]
          show v.2 = S.2
          rw [v1.1, e9, e8]
          show w.2 = S.2
          rw [ew]
          show y.2 = S.2
          rw [y3.1]
          exact f2
        · intro q h0 h1 h4 h8 h9
          rw [fq q h0, v1.2.1 q h0 h1, rq q h0 h4, y3.2.1 q h0 h8 h9, fr3 q h0]
        · intro i hi
          rw [fv i (by omega) (by omega), v1.2.2 i (by omega) (by omega) (by omega) (by omega), rk i (by omega) (by omega) (by omega) (by omega) (by omega) (by omega), y3.2.2 i (by omega) (by omega), fk3 i (by omega) (by omega) (by omega)]
        · rw [fv _ (by omega) (by omega), v1.2.2 _ (by omega) (by omega) (by omega) (by omega), e9, m_k (by omega), e8, m_k (by omega), m_k (by omega), r_r (by omega), ew, m_k (by omega), m_k (by omega), m_s]
        · rw [fv _ (by omega) (by omega), v1.2.2 _ (by omega) (by omega) (by omega) (by omega), e9, m_k (by omega), e8, m_k (by omega), m_k (by omega), r_r (by omega), ew, m_k (by omega), m_s]
        · rw [fv _ (by omega) (by omega), v1.2.2 _ (by omega) (by omega) (by omega) (by omega), e9, m_k (by omega), e8, m_k (by omega), m_k (by omega), r_r (by omega), ew, m_s]
        · rw [e12, m_k (by omega), e11, m_s]
        · rw [fq _ (by omega)]; exact v2
        · rw [fq _ (by omega), v1.2.1 _ (by omega) (by omega)]; exact r4
        · rw [fv _ (by omega) (by omega), v1.2.2 _ (by omega) (by omega) (by omega) (by omega)]; exact s6
      exact ⟨fun _ => fin, fun _ => fin⟩
    · have hs : p_scr T n = .inl (1, x_B T n s') := by unfold p_scr; rw [he]; simp only [p_bd]; rw [if_neg hK]
      refine j_neg hK (c_must_f (by decide) y1 (fun w w1 w2 _ => ⟨false, rfl, err _ _ _ hs w ⟨m_sr_1 y3 w1, w2⟩⟩))
