/-! ===== the class: a game's day ===== -/
theorem tp_at {n lim np L d : Nat} {blk : Int32} : ∀ (ρ : List Nat) (r : Nat → Int32) (j : Nat), IR r n lim np L d blk → (∀ l, l ∈ ρ → l < L) → (j < 7 ∨ (9 ≤ j ∧ j < 1140) ∨ ∃ l' w, w ≤ 5 ∧ j = 1200 + 11 * l' + w) → o_tp d ρ r j = r j := by
  intro ρ
  induction ρ with
  | nil => intro r j _ _ _; rw [o_tp]
  | cons l ρ ih =>
    intro r j h hin hj
    have hl := hin l List.mem_cons_self
    have hq := IR_q h hl
    have hnp := h.2.2.2.1
    have e : j ≠ 1200 + 11 * l + 6 ∧ j ≠ 1200 + 11 * l + 9 ∧ j ≠ 1200 + 11 * l + 10 ∧ j ≠ 1140 + 15 * o_q r l + (1 + (1 - o_b r l)) ∧ j ≠ 7 ∧ j ≠ 8 := by
      rcases hj with hj | hj | ⟨l', w, hw, hj⟩ <;> omega
    rw [o_tp, ih _ j (IR_gp h hl) (fun l' hl' => hin l' (List.mem_cons_of_mem _ hl')) hj]
    exact o_gp_at e.1 e.2.1 e.2.2.1 e.2.2.2.1 e.2.2.2.2.1 e.2.2.2.2.2
theorem dayP_at {n lim np L d j : Nat} {blk : Int32} {ρ : List Nat} {r : Nat → Int32} (h : IR r n lim np L d blk) (hin : ∀ l, l ∈ ρ → l < L) (hj : j < 6 ∨ (9 ≤ j ∧ j < 1140) ∨ ∃ l' w, w ≤ 5 ∧ j = 1200 + 11 * l' + w) : o_dayP r np L d ρ j = r j := by
  unfold o_dayP
  rw [o_lvs_at h.2.2.2.1 np _ j (Nat.le_refl _) (fun q s hq hs => by rcases hj with hj | hj | ⟨l', w, hw, hj⟩ <;> omega) (by rcases hj with hj | hj | ⟨l', w, hw, hj⟩ <;> omega) (fun l hl => by rcases hj with hj | hj | ⟨l', w, hw, hj⟩ <;> omega)]
  exact tp_at ρ r j h hin (by rcases hj with hj | hj | hj; exact Or.inl (by omega); exact Or.inr (Or.inl hj); exact Or.inr (Or.inr hj))
/-- a picture whose desks' rows have not changed -/
theorem q_gm_post {M M' : Nat → Nat → Int32} {e n lim np L d : Nat} {r r' : Nat → Int32} {ρ ρ' : List Nat} (h : IR r n lim np L d (-1)) (hg : q_gm M e r n L ρ) (he : ∀ j, (j < 2 ∨ j = 5 ∨ (9 ≤ j ∧ j < 1140) ∨ ∃ l' w, w ≤ 5 ∧ j = 1200 + 11 * l' + w) → r' j = r j)
    (f : ∀ q, e < q → q < e + 19 ∨ q = e + 25 ∨ q = e + 26 ∨ q = e + 27 → M' q = M q) (hp : q_pst M' (e + 19) r' L ρ') (h4 : M' e 4 = r' 2) (h5 : M' e 5 = M e 5) : q_gm M' e r' n L ρ' := by
  obtain ⟨g1, g2, g3, g4, g5⟩ := hg
  refine ⟨fun p hp2 => ?_, hp, fun l hl => ?_, h4, by rw [h5, g5, he 5 (by omega)]⟩
  · refine q_dk_same2 h.1.2.1 (i_dk_mad (i_dk_of h hp2)) hp2 (fun j hj => he j ?_) (fun k w hk hw => he _ ?_) (q_dk_frame (M := M) (fun q h1 h2 => f q (by omega) (by omega)) (g1 p hp2))
    · unfold o_own at hj
      have : j < 2 ∨ j = 5 ∨ (9 ≤ j ∧ j < 1140) := by omega
      rcases this with q | q | q
      · exact Or.inl q
      · exact Or.inr (Or.inl q)
      · exact Or.inr (Or.inr (Or.inl q))
    · have := o_fl_or p k
      exact Or.inr (Or.inr (Or.inl (by omega)))
  · obtain ⟨c1, c2, c3⟩ := g3 l hl
    obtain ⟨k', hL'⟩ := IR_let h hl
    obtain ⟨-, -, -, hk', -, -, ek', -⟩ := hL'
    have w : ∀ w, w ≤ 5 → r' (1200 + 11 * l + w) = r (1200 + 11 * l + w) := fun w hw => he _ (Or.inr (Or.inr (Or.inr ⟨l, w, hw, rfl⟩)))
    unfold q_con
    rw [f (e + 25) (by omega) (by omega), f (e + 26) (by omega) (by omega), f (e + 27) (by omega) (by omega), w 3 (by decide), w 4 (by decide), w 5 (by decide), w 2 (by decide), c1, c2, c3, ek', n_c (by omega), he (762 + 6 * k') (Or.inr (Or.inr (Or.inl (by omega)))), he (762 + 6 * k' + 1) (Or.inr (Or.inr (Or.inl (by omega))))]
    exact ⟨rfl, rfl, rfl⟩
theorem i_pst_tick {r : Nat → Int32} {np L d : Nat} {ρ : List Nat} (hd : d + 1 < 1000000) (h : i_pst r np L d ρ) : i_pst (upd r 2 (Int32.ofNat (d + 1))) np L (d + 1) ρ := by
  obtain ⟨⟨g1, g2, g3, g4, g5, g5', g6, g7⟩, ⟨dp, h6, hdp, hlv⟩, hro⟩ := h
  refine ⟨⟨by rw [u_k (by omega)]; exact g1, g2, by rw [u_k (by omega)]; exact g3, g4, u_s _ _ _, hd, fun q hq => ?_, fun l hl => ?_⟩, ⟨dp, by rw [u_k (by omega)]; exact h6, ?_, fun l hl => ?_⟩, i_road_tick hro⟩
  · rw [u_k (by omega)]
    refine ⟨(g6 q hq).1, fun t ht => ?_⟩
    rw [u_k (by omega)]
    exact (g6 q hq).2 t ht
  · rw [u_k (by omega), u_k (by omega), u_k (by omega), u_k (by omega)]
    exact g7 l hl
  · rw [cnt_congr (h := fun l => decide (r (1200 + 11 * l + 6) = 0)) L (fun i hi => by simp only [u_k (show 1200 + 11 * i + 6 ≠ 2 by omega)])]
    exact hdp
  · rw [u_k (by omega), u_k (by omega)]
    exact hlv l hl
theorem IG_tick {r : Nat → Int32} {n lim np L d : Nat} {ρ : List Nat} (hd : d + 1 < 1000000) (h : IG r n lim np L d ρ) : IG (upd r 2 (Int32.ofNat (d + 1))) n lim np L (d + 1) ρ :=
  ⟨IR_tick hd h.1, i_pst_tick hd h.2.1, fun p hp => i_bd_same h.1.1.2.1 (i_dk_mad (i_dk_of h.1 hp)) hp (fun j hj => u_k (by omega)) (h.2.2 p hp)⟩
theorem IG_dayP {r : Nat → Int32} {n lim np L d : Nat} {ρ ρ' : List Nat} (h : IG r n lim np L d ρ) (hp : i_pst (o_dayP r np L d ρ) np L d ρ') : IG (o_dayP r np L d ρ) n lim np L d ρ' := by
  have hin : ∀ l, l ∈ ρ → l < L := fun l hl => (h.2.1.2.2.1 l hl).1
  refine ⟨IR_lvs h.1.2.2.2.1 np _ (Nat.le_refl _) (IR_tp ρ r h.1 hin), hp, fun p hp2 => i_bd_same h.1.1.2.1 (i_dk_mad (i_dk_of h.1 hp2)) hp2 (fun j hj => dayP_at h.1 hin (Or.inr (Or.inl (by omega)))) (h.2.2 p hp2)⟩
theorem g_day {g : ev_G} {S : ev_S} {e n lim np L d : Nat} {r : Nat → Int32} {ρ : List Nat} (hd : d + 1 < 1000000) (h : IG r n lim np L d ρ) (hg : q_gm S.1 e r n L ρ) {Q : ev_O → ev_S → Prop}
    (hQ : ∀ z ρ', q_fr S z e 36 → IG (o_day r n np L d (-1) ρ) n lim np L (d + 1) ρ' → q_gm z.1 e (o_day r n np L d (-1) ρ) n L ρ' → Q (.inl (some (ev_i (Int32.ofNat (o_ar (d + 1) ρ (upd r 2 (Int32.ofNat (d + 1)))).length)))) z) :
    ev_Cv g m_X2_passDay 5 0 [ev_o 2 e] S Q := by
  have ht := IG_tick hd h
  have hin : ∀ l, l ∈ ρ → l < L := fun l hl => (h.2.1.2.2.1 l hl).1
  have e4 : S.1 e 4 + 1 = Int32.ofNat (d + 1) := by rw [hg.2.2.2.1, h.1.2.2.2.2.2.2.1, n_inc]
  rw [day_split hd h.1 h.2.1.2.2] at hQ
  have e2 : upd r 2 (Int32.ofNat (d + 1)) 2 = Int32.ofNat (d + 1) := u_s _ _ _
  have er : ∀ j, j ≠ 2 → upd r 2 (Int32.ofNat (d + 1)) j = r j := fun j hj => u_k hj
  refine sg_X2_passDay_0 e ?_
  rw [e4]
  intro S1 h1
  have x1 : ∀ q, q ≠ e → S1.1 q = S.1 q := fun q hq => by rw [h1, m_r hq]
  have hg1 : q_gm S1.1 e (upd r 2 (Int32.ofNat (d + 1))) n L ρ := by
    refine q_gm_post h.1 hg (fun j hj => er j (by rcases hj with hj | hj | hj | ⟨l', w, hw, hj⟩ <;> omega)) (fun q hq _ => x1 q (by omega)) ?_ (by rw [h1, m_s, e2]) (by rw [h1, m_k (by omega)])
    have := q_pst_frame (M := S.1) (M' := S1.1) (fun q h1 h2 => x1 q (by omega)) hg.2.1
    refine ⟨?_, this.2.1, this.2.2⟩
    obtain ⟨⟨a1, a2, a3, a4, a5⟩, c, w⟩ := this.1
    refine ⟨⟨by rw [er _ (by omega)]; exact a1, by rw [er _ (by omega)]; exact a2, by rw [er _ (by omega)]; exact a3, by rw [er _ (by omega)]; exact a4, by rw [er _ (by omega)]; exact a5⟩, fun q hq => ?_, fun l hl => ?_⟩
    · obtain ⟨c1, c2, c3, c4⟩ := c q hq
      refine ⟨by rw [er _ (by omega)]; exact c1, fun s hs => by rw [er _ (by omega)]; exact c2 s hs, fun t ht => by rw [er _ (by omega)]; exact c3 t ht, fun s hs => ?_⟩
      rw [c4 s hs]
      refine congrArg Int32.ofNat ?_
      exact cnt_congr L (fun j _ => (o_wt_same (er _ (by omega)) (er _ (by omega)) (by rw [er _ (by omega)])).symm)
    · rw [er _ (by omega), er _ (by omega), er _ (by omega), er _ (by omega), er _ (by omega), er _ (by omega)]
      exact w l hl
  have := p_day (g := g) (S := S1) (e := e + 19) ht.2.1 hg1.2.1 (Q := fun o S2 => ∃ v1_ : Int32, o = .inl (some (ev_i v1_)) ∧ ev_E g m_X2_passDay 5 0 24 [some (ev_o 2 e), some (ev_i v1_), some (ev_i 0), none, none] [] S2 Q) (fun z ρ' z1 z2 z3 z4 z5 => ?_)
  · rw [e2] at this
    exact this
  · refine ⟨_, rfl, ?_⟩
    have z0 : z.1 e = S1.1 e := z1.2 e (by omega) (by omega) (by omega) (by omega) (by omega) (by omega) (by omega) (by omega)
    have hI := IG_dayP ht z2
    have hgz : q_gm z.1 e (o_dayP (upd r 2 (Int32.ofNat (d + 1))) np L (d + 1) ρ) n L ρ' := by
      refine q_gm_post ht.1 hg1 (fun j hj => dayP_at ht.1 hin ?_) (fun q h1 h2 => z1.2 q (by omega) (by omega) (by omega) (by omega) (by omega) (by omega) (by omega) (by omega)) z3 ?_ (by rw [z0])
      · rcases hj with hj | hj | hj | hj
        · exact Or.inl (by omega)
        · exact Or.inl (by omega)
        · exact Or.inr (Or.inl hj)
        · exact Or.inr (Or.inr hj)
      · rw [z0, hg1.2.2.2.1, dayP_at ht.1 hin (Or.inl (by decide))]
    exact g_reads (g := g) (e := e) _ z _ 0 hI hgz (fun l hl => hin l (o_ar_sub _ _ _ hl)) z4 (Nat.zero_add _) z5 Q (fun y y1 y2 y3 => hQ y ρ' ⟨y1.1.trans (z1.1.trans (by rw [h1]; rfl)), fun q hq => by
      rw [y1.2 q hq, z1.2 q (by omega) (by omega) (by omega) (by omega) (by omega) (by omega) (by omega) (by omega), x1 q (by omega)]⟩ y2 y3)
