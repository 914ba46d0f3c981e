/-! ===== a script: the class does its commands ===== -/
def wl : Nat → Nat
  | 0 => 1
  | l + 1 => 20 * wl l
theorem wl_pos : ∀ l, 1 ≤ wl l := by
  intro l
  induction l with
  | zero => exact Nat.le_refl 1
  | succ l ih => show 1 ≤ 20 * wl l; omega
def TD (S0 : ev_S) (b : Nat) (r : Nat → Int32) (k : Nat) (z : ev_S) : Prop := (z.2 = S0.2 ∧ ∀ q, (q < b + 7 ∨ (b + 8 ≤ q ∧ q < b + 11) ∨ b + 52 ≤ q) → z.1 q = S0.1 q) ∧ q_any z.1 (b + 11) r ∧ k ≤ 40
abbrev TAt (g : ev_G) (b k off st : Nat) (z : ev_S) (Q : ev_O → ev_S → Prop) : Prop := ev_E g m_X9_runScript 9 0 48 [some (ev_o 9 b), some (ev_i (Int32.ofNat k)), some (ev_i (Int32.ofNat off)), some (ev_i (Int32.ofNat st))] [] z Q
def TGo (g : ev_G) (S0 : ev_S) (b B off : Nat) (Q : ev_O → ev_S → Prop) (R7 : Nat → Int32) (lo hi : Nat) (p : PX) : Prop := ∀ z, TD S0 b p.2.1 p.2.2 z → (∀ j, (j < lo ∨ hi ≤ j) → z.1 (b + 7) j = R7 j) → (p.1 = true → p.2.2 < 40 → ∀ st, st ≤ B → TAt g b p.2.2 off st z Q) ∧ (p.1 = false ∨ p.2.2 = 40 → Q (.inl (some (ev_i (Int32.ofNat p.2.2)))) z)
def TIt (g : ev_G) (S0 : ev_S) (b len l : Nat) : Prop := ∀ (x : AT l) (off k st : Nat) (r : Nat → Int32) (z : ev_S) (Q : ev_O → ev_S → Prop), TD S0 b r k z → k < 40 → at_ok l x → q_code (S0.1 (b + 4)) (S0.1 (b + 5)) (S0.1 (b + 6)) l off x → off + at_sz l x ≤ len → st + wl l * at_sz l x ≤ 24000 →
  TGo g S0 b (st + wl l * at_sz l x) (off + at_sz l x) Q (z.1 (b + 7)) off (off + at_sz l x) (x_item l x r k) → TAt g b k off st z Q
def TLs (g : ev_G) (S0 : ev_S) (b len l : Nat) : Prop := ∀ (L : List (AT l)) (off k st : Nat) (r : Nat → Int32) (z : ev_S) (Q : ev_O → ev_S → Prop), TD S0 b r k z → k < 40 → (∀ y, y ∈ L → at_ok l y) → q_cds (at_sz l) (q_code (S0.1 (b + 4)) (S0.1 (b + 5)) (S0.1 (b + 6)) l) off L → off + ls_sz (at_sz l) L ≤ len → st + wl l * ls_sz (at_sz l) L ≤ 24000 →
  TGo g S0 b (st + wl l * ls_sz (at_sz l) L) (off + ls_sz (at_sz l) L) Q (z.1 (b + 7)) off (off + ls_sz (at_sz l) L) (x_seq (x_item l) L r k) → TAt g b k off st z Q
theorem tls_of {g : ev_G} {S0 : ev_S} {b len l : Nat} (h1 : TIt g S0 b len l) : TLs g S0 b len l := by
  intro L
  induction L with
  | nil =>
    intro off k st r z Q hz hk ho hc he hb hQ
    rw [ls_sz] at hQ
    exact (hQ z hz (fun j _ => rfl)).1 rfl hk st (by omega)
  | cons y L ih =>
    intro off k st r z Q hz hk ho hc he hb hQ
    rw [ls_sz] at he hb hQ
    rw [Nat.mul_add] at hb hQ
    refine h1 y off k st r z Q hz hk (ho y (List.mem_cons_self ..)) hc.1 (by omega) (by omega) (fun w hw hw7 => ⟨fun hb1 hk1 st' hst => ?_, fun hb1 => ?_⟩)
    · rw [x_seq, if_pos hb1] at hQ
      refine ih _ _ st' _ w Q hw hk1 (fun y' hy' => ho y' (List.mem_cons_of_mem _ hy')) hc.2 (by omega) (by omega) (fun v hv hv7 => ?_)
      have h2 := hQ v hv (fun j hj => by rw [hv7 j (by omega), hw7 j (by omega)])
      refine ⟨fun c1 c2 st'' hst' => ?_, fun c1 => h2.2 c1⟩
      have := h2.1 c1 c2 st'' (by omega)
      rw [← Nat.add_assoc] at this
      exact this
    · by_cases hb2 : (x_item l y r k).1 = true
      · rw [x_seq, if_pos hb2] at hQ
        rcases hb1 with hb1 | hb1
        · rw [hb2] at hb1; cases hb1
        have e := x_seq_40 (x_item_40 l) L (x_item l y r k).2.1
        rw [hb1] at hQ hw ⊢
        have := (hQ w (by rw [e]; exact hw) (fun j hj => hw7 j (by omega))).2 (Or.inr (by rw [e]))
        rw [e] at this
        exact this
      · rw [x_seq, if_neg hb2] at hQ
        exact (hQ w hw (fun j hj => hw7 j (by omega))).2 hb1
theorem jmp_y {S : ev_S} {b off : Nat} (ho : off < 60) (h : S.1 (b + 4) off = 7 ∨ S.1 (b + 4) off = 8) : t_X7_isJump S (b + 3) (Int32.ofNat off) = true := by
  unfold t_X7_isJump
  rw [a_in (by omega) (by omega)]
  rcases h with h | h
  · rw [if_pos h]
  · have h' : S.1 (b + 3 + 1) off = 8 := h
    rw [h', if_neg (by decide), if_pos rfl]
theorem jmp_n {S : ev_S} {b off c : Nat} (ho : off < 60) (hc : c ≤ 5) (h : S.1 (b + 4) off = Int32.ofNat (c + 1)) : ¬ t_X7_isJump S (b + 3) (Int32.ofNat off) = true := by
  have e7 : (7 : Int32) = Int32.ofNat 7 := rfl
  have e8 : (8 : Int32) = Int32.ofNat 8 := rfl
  have h' : S.1 (b + 3 + 1) off = Int32.ofNat (c + 1) := h
  unfold t_X7_isJump
  rw [a_in (by omega) (by omega), h', if_neg (by rw [e7, n_eq (by omega) (by omega)]; omega), if_neg (by rw [e8, n_eq (by omega) (by omega)]; omega)]
  decide
theorem t_at {g : ev_G} {b k off st len : Nat} {z : ev_S} {Q : ev_O → ev_S → Prop} (hk : k < 40) (hl : z.1 (b + 3) 5 = Int32.ofNat len) (hlen : len ≤ 60) (ho : off < len) (hs : st < 24060)
    (h1 : t_X7_isJump z (b + 3) (Int32.ofNat off) = true → ev_Cv g m_X7_jump 3 0 [ev_o 7 (b + 3), ev_i (Int32.ofNat off)] z (fun o S1 => ∃ v1_ : Int32, o = .inl (some (ev_i v1_)) ∧ ev_E g m_X9_runScript 9 0 48 [some (ev_o 9 b), some (ev_i (Int32.ofNat k)), some (ev_i v1_), some (ev_i (Int32.ofNat (st + 1)))] [] S1 Q))
    (h2 : ¬ t_X7_isJump z (b + 3) (Int32.ofNat off) = true → ev_Cv g m_X9_perform 7 0 [ev_o 9 b, ev_i (Int32.ofNat off)] z (fun o S2 => ∃ v2_ : Bool, o = .inl (some (ev_i (if v2_ = true then 1 else 0))) ∧ ((v2_ = true → TAt g b (k + 1) (off + 1) (st + 1) S2 Q) ∧ (¬ (v2_ = true) → Q (.inl (some (ev_i (Int32.ofNat k)))) S2)))) : TAt g b k off st z Q := by
  have e24 : (24060 : Int32) = Int32.ofNat 24060 := rfl
  have e40 : (40 : Int32) = Int32.ofNat 40 := rfl
  refine sg_X9_runScript_48 b _ _ _ (j_neg (by rw [e24, n_le (by omega) (by omega)]; omega) (j_neg (by rw [hl, n_le (by omega) (by omega)]; omega) (j_neg (by rw [e40, n_le (by omega) (by omega)]; omega) ?_)))
  rw [n_inc, n_inc, n_inc]
  exact ⟨h1, h2⟩
theorem t_one {g : ev_G} {S0 : ev_S} {b len off k st : Nat} {c : A0} {r : Nat → Int32} {z : ev_S} {Q : ev_O → ev_S → Prop} (hl : S0.1 (b + 3) 5 = Int32.ofNat len) (hlen : len ≤ 60) (hz : TD S0 b r k z) (hk : k < 40) (hok : a0_ok c) (hc : q_cmd (S0.1 (b + 4)) (S0.1 (b + 5)) off c) (he : off + 1 ≤ len) (hs : st + 1 ≤ 24000) {B : Nat} (hB : st + 1 ≤ B) {R7 : Nat → Int32} {lo hi : Nat} (h7 : z.1 (b + 7) = R7)
    (hQ : TGo g S0 b B (off + 1) Q R7 lo hi (x_0 c r k)) : TAt g b k off st z Q := by
  obtain ⟨⟨z1, z2⟩, z3, z4⟩ := hz
  have hk5 : c.1 ≤ 5 := hok.1
  have r3 : z.1 (b + 3) = S0.1 (b + 3) := z2 _ (by omega)
  have r4 : z.1 (b + 4) = S0.1 (b + 4) := z2 _ (by omega)
  have r5 : z.1 (b + 5) = S0.1 (b + 5) := z2 _ (by omega)
  have hcz : q_cmd (z.1 (b + 4)) (z.1 (b + 5)) off c := by rw [r4, r5]; exact hc
  have hj := jmp_n (S := z) (b := b) (off := off) (c := c.1) (by omega) hk5 hcz.1
  unfold x_0 at hQ
  rw [if_neg (by omega)] at hQ
  refine t_at hk (by rw [r3]; exact hl) hlen (by omega) (by omega) (fun h => absurd h hj) (fun _ => ?_)
  refine x_perform z3 hcz (by omega) hok (fun r' hr y y1 y2 => ⟨true, rfl, fun _ => ?_, fun hf => absurd rfl hf⟩) (fun hr y y1 y2 => ⟨false, rfl, fun hf => absurd hf (by decide), fun _ => ?_⟩)
  · rw [hr] at hQ
    have hd : TD S0 b r' (k + 1) y := ⟨⟨y1.1.trans z1, fun q hq => (y1.2 q (by omega)).trans (z2 q hq)⟩, y2, by omega⟩
    have h3 := hQ y hd (fun j _ => by rw [y1.2 _ (by omega), h7])
    by_cases h40 : k + 1 < 40
    · exact h3.1 rfl h40 _ hB
    · have e : k + 1 = 40 := by omega
      have h4 := h3.2 (Or.inr e)
      have e24 : (24060 : Int32) = Int32.ofNat 24060 := rfl
      have e40 : (40 : Int32) = Int32.ofNat 40 := rfl
      refine sg_X9_runScript_48 b _ _ _ (j_neg (by rw [e24, n_le (by omega) (by omega)]; omega) ⟨fun _ => h4, fun _ => j_pos (by rw [e40, n_le (by omega) (by omega)]; omega) h4⟩)
  · rw [hr] at hQ
    exact (hQ y ⟨⟨y1.1.trans z1, fun q hq => (y1.2 q (by omega)).trans (z2 q hq)⟩, y2, z4⟩ (fun j _ => by rw [y1.2 _ (by omega), h7])).2 (Or.inl rfl)
theorem tit_0 {g : ev_G} {S0 : ev_S} {b len : Nat} (hl : S0.1 (b + 3) 5 = Int32.ofNat len) (hlen : len ≤ 60) : TIt g S0 b len 0 := by
  intro x off k st r z Q hz hk hok hc he hs hQ
  have e1 : at_sz 0 x = 1 := rfl
  have e2 : wl 0 = 1 := rfl
  rw [e1] at he hs hQ
  rw [e2] at hs hQ
  exact t_one hl hlen hz hk hok hc he (by omega) (by omega) rfl hQ
theorem tit_s {g : ev_G} {S0 : ev_S} {b len l : Nat} (hl : S0.1 (b + 3) 5 = Int32.ofNat len) (hlen : len ≤ 60) (hL : TLs g S0 b len l) : TIt g S0 b len (l + 1) := by
  intro x off k st r z Q hz hk hok hc he hs hQ
  have hw := wl_pos l
  have hws : wl (l + 1) = 20 * wl l := rfl
  match (x : A0 ⊕ (Nat × List (AT l))) with
  | .inl c =>
    have e1 : at_sz (l + 1) (Sum.inl c : A0 ⊕ (Nat × List (AT l))) = 1 := rfl
    rw [e1, hws] at hs hQ
    rw [e1] at he
    exact t_one hl hlen hz hk hok hc he (by omega) (by omega) rfl hQ
  | .inr q =>
    obtain ⟨t, L⟩ := q
    have e1 : at_sz (l + 1) (Sum.inr (t, L) : A0 ⊕ (Nat × List (AT l))) = 2 + ls_sz (at_sz l) L := rfl
    rw [e1, hws] at hs hQ
    rw [e1] at he
    have hx : x_item (l + 1) (Sum.inr (t, L) : A0 ⊕ (Nat × List (AT l))) r k = x_rep (x_seq (x_item l) L) t r k := rfl
    rw [hx] at hQ
    obtain ⟨c1, c2, c3, c4, c5, c6, c7⟩ := hc
    have c2' : S0.1 (b + 5) (off * 6) = Int32.ofNat t := c2
    have c3' : t ≤ 20 := c3
    have c4' : S0.1 (b + 4) (off + 1 + ls_sz (at_sz l) L) = 8 := c4
    have c5' : S0.1 (b + 6) (off + 1 + ls_sz (at_sz l) L) = Int32.ofNat off := c5
    have c6' : S0.1 (b + 6) off = Int32.ofNat (off + 1 + ls_sz (at_sz l) L) := c6
    have c7' : q_cds (at_sz l) (q_code (S0.1 (b + 4)) (S0.1 (b + 5)) (S0.1 (b + 6)) l) (off + 1) L := c7
    have hok' : ∀ y, y ∈ L → at_ok l y := hok
    clear c2 c3 c4 c5 c6 c7
    have hAe : 20 * wl l * (2 + ls_sz (at_sz l) L) = 40 * wl l + 20 * (wl l * ls_sz (at_sz l) L) := by rw [Nat.mul_add, Nat.mul_assoc, Nat.mul_assoc]; omega
    rw [hAe] at hs hQ
    generalize hS : ls_sz (at_sz l) L = s at *
    have hLs := hL L
    rw [hS] at hLs
    have i0 : (0 : Int32) = Int32.ofNat 0 := rfl
    have i1 : (1 : Int32) = Int32.ofNat 1 := rfl
    have rw3 : ∀ w : ev_S, (∀ q, (q < b + 7 ∨ (b + 8 ≤ q ∧ q < b + 11) ∨ b + 52 ≤ q) → w.1 q = S0.1 q) → w.1 (b + 3) = S0.1 (b + 3) ∧ w.1 (b + 4) = S0.1 (b + 4) ∧ w.1 (b + 3 + 1) = S0.1 (b + 4) ∧ w.1 (b + 3 + 2) = S0.1 (b + 5) ∧ w.1 (b + 3 + 3) = S0.1 (b + 6) := fun w h => ⟨h _ (by omega), h _ (by omega), h _ (by omega), h _ (by omega), h _ (by omega)⟩
    have tdup : ∀ (w : ev_S) (r : Nat → Int32) (k j : Nat) (v : Int32), TD S0 b r k w → TD S0 b r k (ev_up w (b + 7) j v) := fun w r k j v h => ⟨⟨h.1.1, fun q hq => by rw [m_r (by omega)]; exact h.1.2 q hq⟩, q_any_frame (M := w.1) (fun q h1 h2 => m_r (by omega)) h.2.1, h.2.2⟩
    -- the rounds that are left
    have lp : ∀ (m k st : Nat) (r : Nat → Int32) (w : ev_S), 1 ≤ m → m ≤ 20 → k < 40 → TD S0 b r k w → w.1 (b + 7) off = Int32.ofNat m → (∀ j, (j < off ∨ off + (2 + s) ≤ j) → w.1 (b + 7) j = z.1 (b + 7) j) → ∀ B, B ≤ 24000 → st + m * (wl l * s + 1) ≤ B →
        TGo g S0 b B (off + (2 + s)) Q (z.1 (b + 7)) off (off + (2 + s)) (x_rep (x_seq (x_item l) L) m r k) → TAt g b k (off + 1) st w Q := by
      intro m
      induction m with
      | zero => intro k st r w h1; omega
      | succ m ih =>
        intro k st r w h1 h20 hk hw1 hw2 hw3 B hB hst hQ
        rw [Nat.succ_mul] at hst
        rw [x_rep] at hQ
        refine hLs (off + 1) k st r w Q hw1 hk hok' c7' (by omega) (by omega) (fun v hv hv7 => ⟨fun hb1 hk1 st' hst' => ?_, fun hb1 => ?_⟩)
        · rw [if_pos hb1] at hQ
          obtain ⟨v3, v4, v4', v5, v6⟩ := rw3 v hv.1.2
          refine t_at hk1 (by rw [v3]; exact hl) hlen (by omega) (by omega) (fun _ => ?_) (fun hn => absurd (jmp_y (by omega) (Or.inr (by rw [v4, show off + 1 + s = off + 1 + s from rfl]; exact c4'))) hn)
          refine sg_X7_jump_0 (b + 3) _ ?_
          rw [a_in (by omega) (by omega), v4', c4', a_in (by omega) (by omega), v6, c5', a_in (by omega) (by omega)]
          refine j_neg (by decide) (fun S1 e1 => ?_)
          have v7 : v.1 (b + 3 + 4) off = Int32.ofNat (m + 1) := by
            have := hv7 off (by omega)
            exact this.trans hw2
          rw [v7, n_dec _ (by omega), Nat.add_sub_cancel] at e1 ⊢
          rw [a_put (by omega) (by omega)] at e1
          have e1' : S1 = ev_up v (b + 7) off (Int32.ofNat m) := e1
          rw [i0, n_le (by omega) (by omega), n_inc, n_inc]
          have htd : TD S0 b (x_seq (x_item l) L r k).2.1 (x_seq (x_item l) L r k).2.2 S1 := by rw [e1']; exact tdup _ _ _ _ _ hv
          have hfr : ∀ j, (j < off ∨ off + (2 + s) ≤ j) → S1.1 (b + 7) j = z.1 (b + 7) j := fun j hj => by rw [e1', m_k (by omega), hv7 j (by omega), hw3 j hj]
          refine ⟨fun hm => ⟨_, rfl, ?_⟩, fun hm => ⟨_, rfl, ?_⟩⟩
          · have m0 : m = 0 := by omega
            subst m0
            have := (hQ S1 htd hfr).1 rfl hk1 (st' + 1) (by omega)
            have e2 : off + (2 + s) = off + 1 + s + 1 := by omega
            rw [e2] at this
            exact this
          · exact ih _ (st' + 1) _ S1 (by omega) (by omega) hk1 htd (by rw [e1', m_s]) hfr B hB (by omega) hQ
        · by_cases hb2 : (x_seq (x_item l) L r k).1 = true
          · rw [if_pos hb2] at hQ
            rcases hb1 with hb1 | hb1
            · rw [hb2] at hb1; cases hb1
            have e := x_rep_40 (fun r => x_seq_40 (x_item_40 l) L r) m (x_seq (x_item l) L r k).2.1
            rw [hb1] at hQ hv ⊢
            have := (hQ v (by rw [e]; exact hv) (fun j hj => by rw [hv7 j (by omega), hw3 j hj])).2 (Or.inr (by rw [e]))
            rw [e] at this
            exact this
          · rw [if_neg hb2] at hQ
            exact (hQ v hv (fun j hj => by rw [hv7 j (by omega), hw3 j hj])).2 hb1
    obtain ⟨z3, z4, z4', z5, z6⟩ := rw3 z hz.1.2
    refine t_at hk (by rw [z3]; exact hl) hlen (by omega) (by omega) (fun _ => ?_) (fun hn => absurd (jmp_y (by omega) (Or.inl (by rw [z4]; exact c1))) hn)
    refine sg_X7_jump_0 (b + 3) _ ?_
    have eo : Int32.ofNat off * 6 + 0 = Int32.ofNat (off * 6) := by rw [rm_6, i0, n_add, Nat.add_zero]
    rw [a_in (by omega) (by omega), z4', c1, eo, a_in (by omega) (by omega), z5, c2', a_in (by omega) (by omega), z6, c6']
    refine j_pos rfl (fun S2 e2 => ?_)
    rw [a_put (by omega) (by omega)] at e2
    have e2' : S2 = ev_up z (b + 7) off (Int32.ofNat t) := e2
    have s5 : S2.1 (b + 3 + 2) = S0.1 (b + 5) := by rw [e2', m_r (by omega)]; exact z5
    rw [a_in (by omega) (by omega), s5, c2', i0, n_le (by omega) (by omega), n_inc, n_inc]
    have htd : TD S0 b r k S2 := by rw [e2']; exact tdup _ _ _ _ _ hz
    have hfr : ∀ j, (j < off ∨ off + (2 + s) ≤ j) → S2.1 (b + 7) j = z.1 (b + 7) j := fun j hj => by rw [e2', m_k (by omega)]
    refine ⟨fun ht => ⟨_, rfl, ?_⟩, fun ht => ⟨_, rfl, ?_⟩⟩
    · have t0 : t = 0 := by omega
      subst t0
      have := (hQ S2 htd hfr).1 rfl hk (st + 1) (by omega)
      have e3 : off + (2 + s) = off + 1 + s + 1 := by omega
      rw [e3] at this
      exact this
    · refine lp t k (st + 1) r S2 (by omega) c3' hk htd (by rw [e2', m_s]) hfr _ hs ?_ hQ
      have : t * (wl l * s + 1) ≤ 20 * (wl l * s + 1) := Nat.mul_le_mul_right _ c3'
      omega
