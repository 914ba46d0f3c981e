/-! ===== both boards agree: moves go on, letters are read ===== -/
theorem i_dk_p {r : Nat → Int32} {n lim np L d p : Nat} {blk : Int32} (h : IR r n lim np L d blk) (hp : p < 2) : i_dk r p n lim := by
  have : p = 0 ∨ p = 1 := by omega
  rcases this with rfl | rfl
  · exact h.1
  · exact h.2.1
/-- moves are applied as long as possible -/
theorem CI_all {p n lim L : Nat} (hp : p < 2) : ∀ (k : Nat) (r : Nat → Int32), i_dk r p n lim → i_bd r p n → (∀ p, p < 2 → o_mad r p ≤ 60) → lim < o_mad r p + k → CI r L → CB r n p → CI (o_all p n k r) L ∧ CB (o_all p n k r) n p ∧ CR (o_all p n k r) n p := by
  intro k
  induction k with
  | zero =>
    intro r hdk _ _ hk _ _
    exfalso
    obtain ⟨m, hm, hml⟩ := hdk.2.2.2.2.1
    have := hdk.2.2.2.1
    have hmd : o_mad r p = m := by unfold o_mad; rw [hm, n_c (by omega)]
    omega
  | succ k ih =>
    intro r hdk hbd hmad hfu h hb
    have hall := hdk
    obtain ⟨h0, h8, h1, h60, ⟨m, hm, hml⟩, hs, hpr⟩ := hdk
    have hmd : o_mad r p = m := by unfold o_mad; rw [hm, n_c (by omega)]
    have hn9 := sq_le h8
    have hmk := o_maker_lt (m + 1)
    rw [o_all, hmd]
    by_cases ho : o_over r p n = true
    · rw [if_pos ho]
      exact ⟨h, hb, fun hh => absurd ho hh⟩
    rw [if_neg ho]
    have hlt : m < lim := by
      have := o_over_not ho
      rw [hm, h1, Ne, n_eq (by omega) (by omega)] at this
      omega
    have hcl : ∀ j, j ≠ 514 + 124 * p + 2 * (m + 1) → j ≠ 514 + 124 * p + 2 * (m + 1) + 1 → o_clr r p (m + 1) j = r j := fun j j1 j2 => by rw [o_clr, u_k j2, u_k j1]
    -- what a step leaves
    have fr : ∀ (f t : Nat), f < 64 → t < 64 → ∀ j, (¬ o_own p j ∨ (154 + 180 * p ≤ j ∧ j < 154 + 180 * p + 3 * m) ∨ (514 + 124 * p ≤ j ∧ j < 638 + 124 * p ∧ j ≠ 514 + 124 * p + 2 * (m + 1) ∧ j ≠ 514 + 124 * p + 2 * (m + 1) + 1)) → o_apply (o_clr r p (m + 1)) p m f t j = r j := fun f t hf ht j hj => by
      rw [o_apply_at (by unfold o_own at hj; omega) (by unfold o_own at hj; omega) (by unfold o_own at hj; omega) (by unfold o_own at hj; omega), hcl j (by unfold o_own at hj; omega) (by unfold o_own at hj; omega)]
    have hmq : ∀ (f t : Nat), f < 64 → t < 64 → ∀ p', p' < 2 → o_mad (o_apply (o_clr r p (m + 1)) p m f t) p' ≤ 60 := fun f t hf ht p' hp' => by
      by_cases hpp : p' = p
      · unfold o_mad
        rw [hpp, o_apply_made, n_c (by omega)]
        omega
      · unfold o_mad
        rw [fr f t hf ht _ (Or.inl (by unfold o_own; omega))]
        exact hmad p' hp'
    have hbc : CB (o_clr r p (m + 1)) n p := CB_same hp h8 hb (fun j hj => hcl j (by omega) (by omega))
    have hsc : i_sq (o_clr r p (m + 1)) p n := fun s hs9 => by
      rw [hcl _ (by omega) (by omega)]
      exact hbd.1 s hs9
    by_cases hst : r (514 + 124 * p + 2 * (m + 1)) = -1
    · rw [if_pos hst]
      by_cases hd : o_due r p m = true
      · rw [if_pos hd]
        obtain ⟨ef, et, rf, rt, -, -, -, hrf9, hrt9, hne, -, -, q2, q3, q4, -⟩ := o_due_pr (by omega) hpr hd
        have hrf : rf < 64 := by omega
        have hrt : rt < 64 := by omega
        rw [q2, q3, n_c (by omega), n_c (by omega)]
        simp only [o_due, decide_eq_true_eq] at hd
        obtain ⟨d1, d2, d3, d4⟩ := hd
        have dex : ∀ w, w < 2 → MV r p m w = r (762 + 6 * (m + 1) + w) := fun w hw => by
          have : w = 0 ∨ w = 1 := by omega
          unfold MV
          rcases this with rfl | rfl
          · exact d3
          · exact d4
        obtain ⟨v1, v2, -, -⟩ := o_apply_mv (r := o_clr r p (m + 1)) (m := m) (f := rf) (t := rt) (by omega) hp hrf hrt
        have hc : CI (o_apply (o_clr r p (m + 1)) p m rf rt) L := by
          obtain ⟨c1, c2, c3, c4, c6⟩ := h
          refine CI_step (f := Int32.ofNat rf) (t := Int32.ofNat rt) hp hm (by omega) hmad ⟨c1, c2, c3, c4, c6⟩ o_apply_made v1 v2 (fr rf rt hrf hrt) (fun k1 => ?_) (fun k1 k2 => ⟨d2, q4, q2.symm, q3.symm, dex⟩) (fun k1 k2 _ _ => ⟨q2.symm, q3.symm⟩)
          rw [← q2, ← q3]
          by_cases hmp : o_maker (m + 1) = p
          · obtain ⟨-, -, a3⟩ := c2 p hp (m + 1) (by omega) k1 hmp
            exact ⟨((a3 0 (by omega)).1).symm, ((a3 1 (by omega)).1).symm⟩
          · have hmq2 : o_maker (m + 1) = 1 - p := by omega
            have := c6 (1 - p) (by omega) (m + 1) (by omega) k1 hmq2 q4 (fun w hw => by
              rw [Nat.add_sub_cancel, ← dex w hw]
              exact (c1 p hp m d2 (by omega) (by omega) w hw).symm)
            exact ⟨(this 0 (by omega)).symm, (this 1 (by omega)).symm⟩
        have hk9 : ∀ j, j ≠ 12 + 7 * p + 6 → o_keep (o_apply (o_clr r p (m + 1)) p m rf rt) p m j = o_apply (o_clr r p (m + 1)) p m rf rt j := fun j hj => o_keep_at hj
        refine ih _ (i_dk_keep (m := m) hp (i_dk_step hp hm hlt hrf hrt hall)) (i_bd_keep2 (hp := hp) (i_bd_step hp hm hlt hrf9 hrt9 hne hall hbd)) (fun p' hp' => ?_) ?_ ?_ ?_
        · unfold o_mad
          rw [hk9 _ (by omega)]
          exact hmq rf rt hrf hrt p' hp'
        · unfold o_mad
          rw [hk9 _ (by omega), o_apply_made, n_c (by omega)]
          omega
        · -- the count of kept promises plays no part
          have hL84 : True := trivial
          obtain ⟨c1, c2, c3, c4, c6⟩ := hc
          have em : ∀ p', p' < 2 → o_mad (o_keep (o_apply (o_clr r p (m + 1)) p m rf rt) p m) p' = o_mad (o_apply (o_clr r p (m + 1)) p m rf rt) p' := fun p' hp' => by unfold o_mad; rw [hk9 _ (by omega)]
          have ev : ∀ p' k w, 1 ≤ k → p' < 2 → MV (o_keep (o_apply (o_clr r p (m + 1)) p m rf rt) p m) p' k w = MV (o_apply (o_clr r p (m + 1)) p m rf rt) p' k w := fun p' k w _ hp' => by unfold MV; rw [hk9 _ (by omega)]
          have e5 : ∀ j, 514 ≤ j → o_keep (o_apply (o_clr r p (m + 1)) p m rf rt) p m j = o_apply (o_clr r p (m + 1)) p m rf rt j := fun j hj => hk9 j (by omega)
          refine ⟨fun p' hp' k k1 k2 k3 w hw => ?_, fun p' hp' k k1 k2 hk => ?_, fun p' hp' k k60 k1 hst => ?_, fun l hl h0 => ?_, fun p' hp' k k2 k3 hk hwr hex w hw => ?_⟩
          · rw [em p' hp'] at k2
            rw [em (1 - p') (by omega)] at k3
            rw [ev p' k w k1 hp', ev (1 - p') k w k1 (by omega)]
            exact c1 p' hp' k k1 k2 k3 w hw
          · rw [em p' hp'] at k1
            rw [em (1 - p') (by omega)] at k2
            obtain ⟨a1, a2, a3⟩ := c2 p' hp' k k1 k2 hk
            refine ⟨a1, by rw [e5 _ (by omega)]; exact a2, fun w hw => ?_⟩
            rw [ev (1 - p') k w (by omega) (by omega), ev (1 - p') (k - 1) w (by omega) (by omega), e5 _ (by omega), e5 _ (by omega)]
            exact a3 w hw
          · rw [em p' hp'] at k1
            rw [e5 _ (by omega)] at hst
            obtain ⟨a1, a2, a3⟩ := c3 p' hp' k k60 k1 hst
            refine ⟨a1, by rw [em (1 - p') (by omega)]; exact a2, fun w hw => ?_⟩
            rw [ev (1 - p') k w (by omega) (by omega), e5 _ (by omega)]
            exact a3 w hw
          · rw [e5 _ (by omega)] at h0
            obtain ⟨b, k, a1, a2, a3, a4, a5, a6, a7⟩ := c4 l hl h0
            refine ⟨b, k, a1, by rw [e5 _ (by omega)]; exact a2, by rw [e5 _ (by omega)]; exact a3, a4, by rw [em b a1]; exact a5, a6, fun w hw => ?_⟩
            rw [ev b k w a4 a1, e5 _ (by omega)]
            exact a7 w hw
          · rw [em p' hp'] at k3
            rw [e5 _ (by omega)] at hwr
            rw [ev p' k w (by omega) hp', e5 _ (by omega)]
            refine c6 p' hp' k k2 k3 hk hwr (fun w hw => ?_) w hw
            have h9 := hex w hw
            rw [ev p' (k - 1) w (by omega) hp', e5 _ (by omega)] at h9
            exact h9
        · exact CB_same hp h8 (CB_apply (by omega) hp h8 hrf9 hrt9 hne hsc hbc) (fun j hj => hk9 j (by omega))
      · rw [if_neg hd]
        exact ⟨h, hb, fun _ => ⟨by rw [hmd]; exact hst, by rw [hmd]; exact hd⟩⟩
    · rw [if_neg hst]
      rcases hs (m + 1) (by omega) with h9 | ⟨f, t, hf9, ht9, hft, ef, et⟩
      · exact absurd h9 hst
      have hf : f < 64 := by omega
      have ht : t < 64 := by omega
      rw [ef, et, n_c (by omega), n_c (by omega)]
      obtain ⟨v1, v2, -, -⟩ := o_apply_mv (r := o_clr r p (m + 1)) (m := m) (f := f) (t := t) (by omega) hp hf ht
      obtain ⟨a1, a2, a3⟩ := h.2.2.1 p hp (m + 1) (by omega) (by omega) hst
      have hc : CI (o_apply (o_clr r p (m + 1)) p m f t) L := by
        refine CI_step (f := Int32.ofNat f) (t := Int32.ofNat t) hp hm (by omega) hmad h o_apply_made v1 v2 (fr f t hf ht) (fun _ => ?_) (fun k1 _ => by omega) (fun k1 => by omega)
        rw [← ef, ← et]
        exact ⟨a3 0 (by omega), a3 1 (by omega)⟩
      refine ih _ (i_dk_step hp hm hlt hf ht hall) (i_bd_step hp hm hlt hf9 ht9 hft hall hbd) (hmq f t hf ht) ?_ hc (CB_apply (by omega) hp h8 hf9 ht9 hft hsc hbc)
      unfold o_mad
      rw [o_apply_made, n_c (by omega)]
      omega
/-- what both boards hold of each other -/
def CP (r : Nat → Int32) (n L : Nat) : Prop := CI r L ∧ (∀ p, p < 2 → CB r n p) ∧ ∀ p, p < 2 → CR r n p
theorem CP_same {r r' : Nat → Int32} {n L : Nat} (h8 : n ≤ 8) (hL : L ≤ 84) (hmad : ∀ p, p < 2 → o_mad r p ≤ 60) (h : CP r n L) (e : ∀ j, (j < 2 ∨ (9 ≤ j ∧ j < 1140 ∧ j ≠ 11) ∨ ∃ l w, l < L ∧ w < 6 ∧ j = 1200 + 11 * l + w) → r' j = r j) : CP r' n L := by
  obtain ⟨h1, h2, h3⟩ := h
  refine ⟨CI_same hL hmad h1 (fun j hj => e j ?_), fun p hp => CB_same hp h8 (h2 p hp) (fun j hj => e j (by omega)), fun p hp => CR_same hp h8 (hmad p hp) (h3 p hp) (fun j hj => e j (by unfold o_own at hj; omega)) (fun w hw => e _ (by have := hmad p hp; omega)) ?_⟩
  · rcases hj with hj | ⟨k, w, k1, k2, rfl⟩ | hj
    · exact Or.inr (Or.inl (by omega))
    · exact Or.inr (Or.inl (by omega))
    · exact Or.inr (Or.inr hj)
  · have := hmad p hp
    split
    · exact e _ (by omega)
    · exact e _ (by omega)
/-- behind o_all p: the other board goes on to rest -/
theorem CP_all {r : Nat → Int32} {p n lim L : Nat} (hp : p < 2) (hdk : i_dk r p n lim) (hbd : i_bd r p n) (hmad : ∀ p, p < 2 → o_mad r p ≤ 60) (h : CI r L) (hb : ∀ p, p < 2 → CB r n p) (hq : CR r n (1 - p)) : CP (o_all p n 61 r) n L := by
  have h8 := hdk.2.1
  have := hdk.2.2.2.1
  obtain ⟨a1, a2, a3⟩ := CI_all (L := L) hp 61 r hdk hbd hmad (by omega) h (hb p hp)
  have fr := (o_all_own hp 61 r hdk).2
  have hq60 := hmad (1 - p) (by omega)
  refine ⟨a1, fun p' hp' => ?_, fun p' hp' => ?_⟩
  · by_cases hpp : p' = p
    · rw [hpp]; exact a2
    · obtain ⟨e1, -⟩ := p01 hp hp' hpp
      rw [e1]
      exact CB_same (by omega) h8 (hb _ (by omega)) (fun j hj => fr j (by unfold o_own; omega))
  · by_cases hpp : p' = p
    · rw [hpp]; exact a3
    · obtain ⟨e1, -⟩ := p01 hp hp' hpp
      rw [e1]
      refine CR_same (by omega) h8 hq60 hq (fun j hj => fr j (by unfold o_own at *; omega)) (fun w hw => fr _ (by unfold o_own; omega)) ?_
      split
      · exact fr _ (by unfold o_own; omega)
      · exact fr _ (by unfold o_own; omega)
/-- a letter is read -/
theorem CP_read {r : Nat → Int32} {n lim np L d l b q k : Nat} {blk : Int32} (hI : IR r n lim np L d blk) (hbd : ∀ p, p < 2 → i_bd r p n) (hl : l < L) (hlet : i_let r n l b q k) (h : CP r n L) : CP (o_read r n l) n L := by
  rw [rd_eq hlet]
  obtain ⟨hb, hq, hk1, hk, eb, eq, ek, f, t, hf, ht, hft, ef, et, hi⟩ := hlet
  have hmad := IR_mad hI
  have hp : 1 - b < 2 := by omega
  have hdk := i_dk_p hI hp
  have h8 := hdk.2.1
  have hL := hI.2.2.2.2.2.1
  have hpi : r (1200 + 11 * l + 2) = 1 → i_pr r n k := fun h9 => by
    rcases hi with h10 | h10
    · rw [h10] at h9; exact absurd h9 (by decide)
    · exact h10.2.1
  have hdt := i_dk_take (isp := r (1200 + 11 * l + 2)) hp hk1 hk hf ht hft hpi hdk
  have hbt : i_bd (o_take r (1 - b) k (r (1200 + 11 * l + 2)) (Int32.ofNat f) (Int32.ofNat t)) (1 - b) n := i_bd_take hk h8 (hmad _ hp) hp (hbd _ hp)
  have hmt : ∀ p, p < 2 → o_mad (o_take r (1 - b) k (r (1200 + 11 * l + 2)) (Int32.ofNat f) (Int32.ofNat t)) p ≤ 60 := fun p' hp' => by rw [o_take_mad hk hp hp']; exact hmad p' hp'
  rw [ef, et]
  have hb' : 1 - (1 - b) = b := by omega
  have hbm := hmad b hb
  obtain ⟨h1, h2, h3⟩ := h
  refine CP_all hp hdt hbt hmt ?_ (fun p hp' => CB_same hp' h8 (h2 p hp') (fun j hj => ?_)) ?_
  · unfold o_take
    split
    · split
      · exact CI_same (by omega) hmad h1 (fun j hj => u_k (by rcases hj with hj | ⟨_, _, _, _, rfl⟩ | ⟨_, _, _, _, rfl⟩ <;> omega))
      · exact CI_same (by omega) hmad h1 (fun j hj => u_k (by rcases hj with hj | ⟨_, _, _, _, rfl⟩ | ⟨_, _, _, _, rfl⟩ <;> omega))
    · next hns =>
      split
      · exact CI_same (by omega) hmad h1 (fun j hj => u_k (by rcases hj with hj | ⟨_, _, _, _, rfl⟩ | ⟨_, _, _, _, rfl⟩ <;> omega))
      · next hkm =>
        split
        · next hst =>
          -- the move is stored
          have h0 : r (1200 + 11 * l + 2) = 0 := by
            rcases hi with h9 | h9
            · exact h9
            · exact absurd h9.1 hns
          obtain ⟨c1, c2, c3, c4, c6⟩ := h1
          obtain ⟨b2, k2, a1, a2, a3, a4, a5, a6, a7⟩ := c4 l hl h0
          have hbb : b2 = b := by rw [eb, n_eq (by omega) (by omega)] at a2; exact a2.symm
          have hkk : k2 = k := by
            have := hmad b2 a1
            rw [ek, n_eq (by omega) (by omega)] at a3
            exact a3.symm
          subst hbb hkk
          have er : ∀ j, j ≠ 514 + 124 * (1 - b2) + 2 * k2 → j ≠ 514 + 124 * (1 - b2) + 2 * k2 + 1 → upd (upd r (514 + 124 * (1 - b2) + 2 * k2) (Int32.ofNat f)) (514 + 124 * (1 - b2) + 2 * k2 + 1) (Int32.ofNat t) j = r j := fun j j1 j2 => by rw [u_k j2, u_k j1]
          have em : ∀ p, p < 2 → o_mad (upd (upd r (514 + 124 * (1 - b2) + 2 * k2) (Int32.ofNat f)) (514 + 124 * (1 - b2) + 2 * k2 + 1) (Int32.ofNat t)) p = o_mad r p := fun p hp => by unfold o_mad; rw [er _ (by omega) (by omega)]
          have ev : ∀ p k w, p < 2 → 1 ≤ k → k ≤ 60 → w < 2 → MV (upd (upd r (514 + 124 * (1 - b2) + 2 * k2) (Int32.ofNat f)) (514 + 124 * (1 - b2) + 2 * k2 + 1) (Int32.ofNat t)) p k w = MV r p k w := fun p k w hp hk0 hk hw => by unfold MV; rw [er _ (by omega) (by omega)]
          have e7 : ∀ j, 762 ≤ j → upd (upd r (514 + 124 * (1 - b2) + 2 * k2) (Int32.ofNat f)) (514 + 124 * (1 - b2) + 2 * k2 + 1) (Int32.ofNat t) j = r j := fun j hj => er j (by omega) (by omega)
          refine ⟨fun p hp' k k1 kk2 k3 w hw => ?_, fun p hp' k k1 kk2 hk => ?_, fun p hp' k k60 k1 hst' => ?_, fun l hl h0 => ?_, fun p hp' k kk2 k3 hk hwr hex w hw => ?_⟩
          · have := hmad p hp'
            rw [em p hp'] at kk2
            rw [em (1 - p) (by omega)] at k3
            rw [ev p k w hp' k1 (by omega) hw, ev (1 - p) k w (by omega) k1 (by omega) hw]
            exact c1 p hp' k k1 kk2 k3 w hw
          · have := hmad (1 - p) (by omega)
            rw [em p hp'] at k1
            rw [em (1 - p) (by omega)] at kk2
            obtain ⟨g1, g2, g3⟩ := c2 p hp' k k1 kk2 hk
            refine ⟨g1, by rw [e7 _ (by omega)]; exact g2, fun w hw => ?_⟩
            rw [ev (1 - p) k w (by omega) (by omega) (by omega) hw, ev (1 - p) (k - 1) w (by omega) (by omega) (by omega) hw, e7 _ (by omega), e7 _ (by omega)]
            exact g3 w hw
          · have := hmad (1 - p) (by omega)
            rw [em p hp'] at k1
            by_cases hpk : p = 1 - b2 ∧ k = k2
            · obtain ⟨rfl, rfl⟩ := hpk
              rw [hb']
              refine ⟨a6, by rw [em b2 a1]; exact a5, fun w hw => ?_⟩
              rw [ev b2 k w a1 a4 (by omega) hw, ← a7 w hw]
              have : w = 0 ∨ w = 1 := by omega
              rcases this with rfl | rfl
              · exact ((u_k (by omega)).trans (u_s _ _ _)).trans ef.symm
              · rw [u_s]; exact et.symm
            · rw [er _ (by omega) (by omega)] at hst'
              obtain ⟨g1, g2, g3⟩ := c3 p hp' k k60 k1 hst'
              refine ⟨g1, by rw [em (1 - p) (by omega)]; exact g2, fun w hw => ?_⟩
              rw [ev (1 - p) k w (by omega) (by omega) (by omega) hw, er _ (by omega) (by omega)]
              exact g3 w hw
          · rw [e7 _ (by omega)] at h0
            obtain ⟨b, k, g1, g2, g3, g4, g5, g6, g7⟩ := c4 l hl h0
            have := hmad b g1
            refine ⟨b, k, g1, by rw [e7 _ (by omega)]; exact g2, by rw [e7 _ (by omega)]; exact g3, g4, by rw [em b g1]; exact g5, g6, fun w hw => ?_⟩
            rw [ev b k w g1 g4 (by omega) hw, e7 _ (by omega)]
            exact g7 w hw
          · have := hmad p hp'
            rw [em p hp'] at k3
            rw [e7 _ (by omega)] at hwr
            rw [ev p k w hp' (by omega) (by omega) hw, e7 _ (by omega)]
            refine c6 p hp' k kk2 k3 hk hwr (fun w hw => ?_) w hw
            have h9 := hex w hw
            rw [ev p (k - 1) w hp' (by omega) (by omega) hw, e7 _ (by omega)] at h9
            exact h9
        · exact CI_same (by omega) hmad h1 (fun j hj => u_k (by rcases hj with hj | ⟨_, _, _, _, rfl⟩ | ⟨_, _, _, _, rfl⟩ <;> omega))
  · unfold o_take
    split
    · split
      · rw [u_k (by omega)]
      · rw [u_k (by omega)]
    · split
      · rw [u_k (by omega)]
      · split
        · rw [u_k (by omega), u_k (by omega)]
        · rw [u_k (by omega)]
  · -- the writer's own board
    rw [hb']
    refine CR_same hb h8 hbm (h3 b hb) (fun j hj => ?_) (fun w hw => ?_) ?_
    · unfold o_own at hj
      unfold o_take
      split
      · split
        · rw [u_k (by omega)]
        · rw [u_k (by omega)]
      · split
        · rw [u_k (by omega)]
        · split
          · rw [u_k (by omega), u_k (by omega)]
          · rw [u_k (by omega)]
    · unfold o_take
      split
      · split
        · rw [u_k (by omega)]
        · rw [u_k (by omega)]
      · split
        · rw [u_k (by omega)]
        · split
          · rw [u_k (by omega), u_k (by omega)]
          · rw [u_k (by omega)]
    · unfold o_take
      split
      · next h9 =>
        have hmk : o_maker k = b := by
          rcases hi with h10 | h10
          · rw [h10] at h9; exact absurd h9 (by decide)
          · exact h10.2.2.1
        split
        · rw [u_k (by split <;> omega)]
        · refine u_k ?_
          split
          · omega
          · next hne =>
            intro q9
            have : o_mad r b + 1 = k := by omega
            rw [this] at hne
            exact hne hmk
      · split
        · rw [u_k (by split <;> omega)]
        · split
          · rw [u_k (by split <;> omega), u_k (by split <;> omega)]
          · rw [u_k (by split <;> omega)]
