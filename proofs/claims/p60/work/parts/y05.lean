/-! ===== the law's own game: a day ===== -/
theorem IR_mad {r : Nat → Int32} {n lim np L d : Nat} {blk : Int32} (hI : IR r n lim np L d blk) : ∀ p, p < 2 → o_mad r p ≤ 60 := fun p hp => by
  have : p = 0 ∨ p = 1 := by omega
  rcases this with rfl | rfl
  · obtain ⟨-, -, -, h60, ⟨m, hm, hml⟩, -⟩ := hI.1
    unfold o_mad
    rw [hm, n_c (by omega)]
    omega
  · obtain ⟨-, -, -, h60, ⟨m, hm, hml⟩, -⟩ := hI.2.1
    unfold o_mad
    rw [hm, n_c (by omega)]
    omega
theorem i_bd_goes {r : Nat → Int32} {n lim np L d l : Nat} {blk : Int32} (h : IR r n lim np L d blk) (hbd : ∀ p, p < 2 → i_bd r p n) (hl : l < L) : ∀ p, p < 2 → i_bd (o_goes r n d l (o_b r l) (o_q r l) blk) p n := by
  have hmad := IR_mad h
  have h8 := h.1.2.1
  obtain ⟨b, q, hb, hq, eb, eq, hk⟩ := h.2.2.2.2.2.2.2.2 l hl
  have hnp := h.2.2.2.1
  have eob : o_b r l = b := by unfold o_b; rw [eb, n_c (by omega)]
  have eoq : o_q r l = q := by unfold o_q; rw [eq, n_c (by omega)]
  rw [eob, eoq]
  have h9 : IR (upd r (1200 + 11 * l + 9) (r (1200 + 11 * l + 9) - 1)) n lim np L d blk := IR_same h (fun j hj => u_k (by rcases hj with hj | hj | ⟨l', w, h1, h2, h3⟩ <;> omega))
  have ha : IR (o_arr (upd r (1200 + 11 * l + 9) (r (1200 + 11 * l + 9) - 1)) l b q) n lim np L d blk := IR_arr hb (by omega) h9
  have era : ∀ j, 12 ≤ j → j < 1140 → o_arr (upd r (1200 + 11 * l + 9) (r (1200 + 11 * l + 9) - 1)) l b q j = r j := fun j j1 j2 => by rw [o_arr_at (by omega) (by omega) (by omega) (by omega) (by omega), u_k (by omega)]
  have hba : ∀ p, p < 2 → i_bd (o_arr (upd r (1200 + 11 * l + 9) (r (1200 + 11 * l + 9) - 1)) l b q) p n := fun p hp => i_bd_same h8 (hmad p hp) hp (fun j hj => era j (by omega) (by omega)) (hbd p hp)
  intro p hp
  unfold o_goes
  split
  · exact hbd p hp
  · split
    · unfold o_come
      split
      · exact hba p hp
      · next hbl =>
        obtain ⟨k, hk'⟩ := hk hbl
        have hk2 : i_let (o_arr (upd r (1200 + 11 * l + 9) (r (1200 + 11 * l + 9) - 1)) l b q) n l b q k := i_let_same hk' (fun j hj => by rw [o_arr_at (by omega) (by omega) (by omega) (by omega) (by omega), u_k (by omega)])
        rw [rd_eq hk2]
        have hma := IR_mad ha
        obtain ⟨-, -, hk1, hk60, -, -, -, f, t, hf, ht, hft, ef, et, hi⟩ := hk2
        rw [ef, et]
        generalize hra : o_arr (upd r (1200 + 11 * l + 9) (r (1200 + 11 * l + 9) - 1)) l b q = ra at *
        have hp1 : 1 - b < 2 := by omega
        have hd : i_dk ra (1 - b) n lim := by
          have : b = 0 ∨ b = 1 := by omega
          rcases this with rfl | rfl
          · exact ha.2.1
          · exact ha.1
        have hdt := i_dk_take (k := k) (isp := ra (1200 + 11 * l + 2)) hp1 hk1 hk60 hf ht hft (fun h7 => by
          rcases hi with h10 | h10
          · rw [h10] at h7; exact absurd h7 (by decide)
          · exact h10.2.1) hd
        have hbt : i_bd (o_take ra (1 - b) k (ra (1200 + 11 * l + 2)) (Int32.ofNat f) (Int32.ofNat t)) (1 - b) n := i_bd_take hk60 h8 (hma _ hp1) hp1 (hba _ hp1)
        by_cases hpb : p = 1 - b
        · rw [hpb]
          exact i_bd_all hp1 61 _ hdt hbt
        · have hfr := (o_all_own hp1 61 _ hdt).2
          refine i_bd_same h8 (hma p hp) hp (fun j hj => ?_) (hba p hp)
          rw [hfr j (by unfold o_own; omega), o_take_at hk60 (by unfold o_own; omega) (by omega) (by omega)]
    · exact i_bd_same h8 (hmad p hp) hp (fun j hj => u_k (by omega)) (hbd p hp)
/-- one letter's cells have changed -/
theorem w_gm_lt {M M' : Nat → Nat → Int32} {a L l : Nat} {r r' : Nat → Int32} (hmad : ∀ p, p < 2 → o_mad r p ≤ 60) (er : ∀ j, (j < 1200 + 11 * l + 6 ∨ 1200 + 11 * l + 11 ≤ j) → r' j = r j) (f : ∀ q, (q < a + 19 ∨ a + 30 ≤ q) → M' q = M q) (fk : ∀ q, a + 19 ≤ q → q < a + 30 → ∀ k, k ≠ l → M' q k = M q k)
    (hw : w_lt M' a r' l) (h : w_gm M a r L) : w_gm M' a r' L := by
  obtain ⟨h1, h2, h3, h4, h5, ⟨⟨hd0, h6⟩, ⟨h7, h7'⟩, h8⟩⟩ := h
  refine ⟨fun k hk => by rw [f a (by omega), er k (by omega)]; exact h1 k hk, w_bds hmad (fun q q1 q2 => f q (by omega)) (fun j hj => er j (by omega)) h2, w_ps_row (fun j j1 j2 => er j (by omega)) (w_ps_fr (fun q q1 q2 => f q (by omega)) h3), fun l' hl' => ?_, fun k hk => w_pr_row (fun w hw => er _ (by omega)) (w_pr_fr (fun q q1 q2 => f q (by omega)) (h5 k hk)), ⟨⟨by rw [er 2 (by omega)]; exact hd0, fun p hp => by rw [er _ (by omega)]; exact h6 p hp⟩, ⟨by rw [er 772 (by omega)]; exact h7, by rw [er 773 (by omega)]; exact h7'⟩, fun l' hl' => by rw [er _ (by omega), er (1200 + 11 * l' + 3) (by omega)]; exact h8 l' hl'⟩⟩
  by_cases hll : l' = l
  · rw [hll]; exact hw
  · refine w_lt_row (fun w hw => er _ (by omega)) ?_
    have hw := h4 l' hl'
    unfold w_lt at hw ⊢
    rw [fk (a + 19) (by omega) (by omega) l' hll, fk (a + 20) (by omega) (by omega) l' hll, fk (a + 21) (by omega) (by omega) l' hll, fk (a + 22) (by omega) (by omega) l' hll, fk (a + 23) (by omega) (by omega) l' hll, fk (a + 24) (by omega) (by omega) l' hll, fk (a + 25) (by omega) (by omega) l' hll, fk (a + 26) (by omega) (by omega) l' hll, fk (a + 27) (by omega) (by omega) l' hll, fk (a + 28) (by omega) (by omega) l' hll, fk (a + 29) (by omega) (by omega) l' hll]
    exact hw
theorem w_skip {g : ev_G} {S : ev_S} {a L k : Nat} {u1 : Int32} {r : Nat → Int32} (hL : L ≤ 81) (hk : k < 2147483648) (h4 : r 4 = Int32.ofNat L) (h : w_gm S.1 a r L) {Q : ev_O → ev_S → Prop} : ∀ (m i : Nat), i + m ≤ L → (∀ l, i ≤ l → l < i + m → ¬ (r (1200 + 11 * l + 6) = 1 ∧ r (1200 + 11 * l + 8) = Int32.ofNat k)) →
    ev_E g m_X11_passes 5 0 24 [some (ev_o 11 a), some (ev_i u1), some (ev_i (Int32.ofNat k)), some (ev_i (Int32.ofNat (i + m)))] [] S Q → ev_E g m_X11_passes 5 0 24 [some (ev_o 11 a), some (ev_i u1), some (ev_i (Int32.ofNat k)), some (ev_i (Int32.ofNat i))] [] S Q := by
  intro m
  have e4 : S.1 a 4 = Int32.ofNat L := (h.1 4 (by omega)).trans h4
  induction m with
  | zero => intro i _ _ q; exact q
  | succ m ih =>
    intro i hi hno q
    obtain ⟨w0, w1, w2, w3, w4, w5, w6, w7, w8, w9⟩ := h.2.2.2.1 i (by omega)
    have go : ev_E g m_X11_passes 5 0 24 [some (ev_o 11 a), some (ev_i u1), some (ev_i (Int32.ofNat k)), some (ev_i (Int32.ofNat (i + 1)))] [] S Q := ih (i + 1) (by omega) (fun l l1 l2 => hno l (by omega) (by omega)) (by rw [show i + 1 + m = i + (m + 1) by omega]; exact q)
    refine sg_X11_passes_24 a _ _ _ (j_neg (by rw [e4, n_le (by omega) (by omega)]; omega) ⟨(n_vp (by omega) (by omega)).mpr trivial, ?_⟩)
    rw [n_c (by omega), w6, n_inc]
    refine ⟨fun c1 => ?_, fun _ => go⟩
    have hn := hno i (Nat.le_refl _) (by omega)
    rw [(w8 c1).1]
    exact j_neg (fun c2 => hn ⟨c1, c2⟩) go
theorem w_one {g : ev_G} {S : ev_S} {a n lim np L d x : Nat} {u1 u2 blk : Int32} {r : Nat → Int32} (hI : IR r n lim np L d blk) (hbd : ∀ p, p < 2 → i_bd r p n) (hx : x < L) (h1 : r (1200 + 11 * x + 6) = 1) (h2 : r (1200 + 11 * x + 8) = u2) (h : w_gm S.1 a r L) (hs : S.1 a 32 = blk) {Q : ev_O → ev_S → Prop}
    (hQ : ∀ z, w_kp S z a → w_gm z.1 a (o_goes r n d x (o_b r x) (o_q r x) blk) L → ev_E g m_X11_passes 5 0 24 [some (ev_o 11 a), some (ev_i u1), some (ev_i u2), some (ev_i (Int32.ofNat (x + 1)))] [] z Q) : ev_E g m_X11_passes 5 0 24 [some (ev_o 11 a), some (ev_i u1), some (ev_i u2), some (ev_i (Int32.ofNat x))] [] S Q := by
  have hL := hI.2.2.2.2.2.1
  have hmad := IR_mad hI
  have e4 : S.1 a 4 = Int32.ofNat L := (h.1 4 (by omega)).trans hI.2.2.2.2.1
  have e2 : S.1 a 2 = Int32.ofNat d := (h.1 2 (by omega)).trans hI.2.2.2.2.2.2.1
  have hd := hI.2.2.2.2.2.2.2.1
  obtain ⟨b, q, hb, hq, eb, eq, -⟩ := hI.2.2.2.2.2.2.2.2 x hx
  have hnp := hI.2.2.2.1
  have eob : o_b r x = b := by unfold o_b; rw [eb, n_c (by omega)]
  have eoq : o_q r x = q := by unfold o_q; rw [eq, n_c (by omega)]
  rw [eob, eoq] at hQ
  obtain ⟨w0, w1, w2, w3, w4, w5, w6, w7, w8, w9⟩ := h.2.2.2.1 x hx
  obtain ⟨w8a, w8b⟩ := w8 h1
  have hT : d / 30 % 12 < 12 := Nat.mod_lt _ (by decide)
  have hd30 : d / 30 < 2147483648 := by omega
  refine sg_X11_passes_24 a _ _ _ (j_neg (by rw [e4, n_le (by omega) (by omega)]; omega) ⟨(n_vp (by omega) (by omega)).mpr trivial, ?_⟩)
  rw [n_c (by omega), w6, w8a, w8b, w1, eq, e2, n_dv30 (by omega), n_rm12 hd30, lm_12, n_add, n_inc]
  refine j_pos h1 (j_pos h2 ⟨(n_vp (by omega) (by omega)).mpr trivial, ?_⟩)
  rw [n_c (by omega), (h.2.2.1 q (by omega)).2.2 _ hT]
  by_cases hs9 : r (1140 + 15 * q + (3 + d / 30 % 12)) = 9
  · unfold o_goes at hQ
    rw [if_pos hs9] at hQ
    exact j_pos hs9 (hQ S (w_kp_rf S a) h)
  · unfold o_goes at hQ
    rw [if_neg hs9] at hQ
    refine j_neg hs9 ?_
    intro S1 x1
    have k1 : ∀ q, q ≠ a + 27 → S1.1 q = S.1 q := fun q hq => by rw [x1, m_r hq]
    have hkp : w_kp S S1 a := w_kp_mk (by rw [x1]; rfl) (fun q hq => k1 q (by omega)) (fun k _ => by rw [k1 a (by omega)]) (fun q hq => k1 q (by omega))
    have er : ∀ j, j ≠ 1200 + 11 * x + 9 → upd r (1200 + 11 * x + 9) (r (1200 + 11 * x + 9) - 1) j = r j := fun j hj => u_k hj
    have hg : w_gm S1.1 a (upd r (1200 + 11 * x + 9) (r (1200 + 11 * x + 9) - 1)) L := by
      refine w_gm_lt (l := x) hmad (fun j hj => er j (by omega)) (fun q hq => k1 q (by omega)) (fun q q1 q2 k hk => ?_) ?_ h
      · by_cases hq27 : q = a + 27
        · rw [hq27, x1, m_k hk]
        · rw [k1 q hq27]
      · unfold w_lt
        rw [k1 (a + 19) (by omega), k1 (a + 20) (by omega), k1 (a + 29) (by omega), k1 (a + 21) (by omega), k1 (a + 22) (by omega), k1 (a + 23) (by omega), k1 (a + 24) (by omega), k1 (a + 25) (by omega), k1 (a + 26) (by omega), k1 (a + 28) (by omega), er (1200 + 11 * x) (by omega), er (1200 + 11 * x + 1) (by omega), er (1200 + 11 * x + 2) (by omega), er (1200 + 11 * x + 3) (by omega), er (1200 + 11 * x + 4) (by omega), er (1200 + 11 * x + 5) (by omega), er (1200 + 11 * x + 6) (by omega), er (1200 + 11 * x + 7) (by omega), er (1200 + 11 * x + 8) (by omega), er (1200 + 11 * x + 10) (by omega), u_s]
        exact ⟨w0, w1, w2, w3, w4, w5, w6, w7, fun _ => ⟨w8a, by rw [x1, m_s]⟩, w9⟩
    by_cases hz : r (1200 + 11 * x + 9) - 1 = 0
    · rw [if_pos hz] at hQ
      have h9 : IR (upd r (1200 + 11 * x + 9) (r (1200 + 11 * x + 9) - 1)) n lim np L d blk := IR_same hI (fun j hj => u_k (by rcases hj with hj | hj | ⟨l', w, h1, h2, h3⟩ <;> omega))
      refine j_pos hz (w_arrives h9 (fun p hp => i_bd_same hI.1.2.1 (hmad p hp) hp (fun j hj => u_k (by omega)) (hbd p hp)) hx hb (by omega) (by rw [u_k (by omega)]; exact eb) (by rw [u_k (by omega)]; exact eq) hg (by rw [k1 a (by omega)]; exact hs) (fun z z1 z2 => ⟨rfl, hQ z (w_kp_tr hkp z1) z2⟩))
    · rw [if_neg hz] at hQ
      exact j_neg hz (hQ S1 hkp hg)
theorem w_trv {g : ev_G} {a n lim np L d dp : Nat} {blk : Int32} (hdp : dp < 1000000) : ∀ (m k : Nat) (S : ev_S) (r : Nat → Int32) (σ : List Nat), k + m = dp + 1 → 1 ≤ k → IR r n lim np L d blk → (∀ p, p < 2 → i_bd r p n) → i_road r L (Int32.ofNat (k - 1)) σ → (∀ l, l ∈ σ → (r (1200 + 11 * l + 8)).toInt ≤ dp) → w_gm S.1 a r L → S.1 a 32 = blk → ∀ Q : ev_O → ev_S → Prop,
    (∀ z, w_kp S z a → w_gm z.1 a (o_trv n d blk σ r) L → ev_E g m_X11_passes 5 0 108 [some (ev_o 11 a), none, some (ev_i 0), none] [] z Q) → ev_E g m_X11_passes 5 0 17 [some (ev_o 11 a), some (ev_i (Int32.ofNat dp)), some (ev_i (Int32.ofNat k)), none] [] S Q := by
  intro m
  induction m with
  | zero =>
    intro k S r σ hkm hk1 hI hbd hro hle h hs Q hQ
    have hσ : σ = [] := by
      cases σ with
      | nil => rfl
      | cons x σ =>
        exfalso
        have := (hro.1 x List.mem_cons_self).2.2
        have h2 := hle x List.mem_cons_self
        rw [z_le, n_i (by omega)] at this
        omega
    subst hσ
    exact sg_X11_passes_17 a _ _ (j_pos (by rw [n_lt (by omega) (by omega)]; omega) (hQ S (w_kp_rf S a) h))
  | succ m ih =>
    intro k S r σ hkm hk1 hI hbd hro hle h hs Q hQ
    have hL := hI.2.2.2.2.2.1
    have h4 := hI.2.2.2.2.1
    refine sg_X11_passes_17 a _ _ (j_neg (by rw [n_lt (by omega) (by omega)]; omega) ?_)
    have e0 : (0 : Int32) = Int32.ofNat 0 := rfl
    rw [e0]
    -- behind the last letter the next number's turn comes
    have out : ∀ (T : ev_S) (r' : Nat → Int32) (σ' : List Nat), w_kp S T a → IR r' n lim np L d blk → (∀ p, p < 2 → i_bd r' p n) → i_road r' L (Int32.ofNat k) σ' → (∀ l, l ∈ σ' → (r' (1200 + 11 * l + 8)).toInt ≤ dp) → w_gm T.1 a r' L → o_trv n d blk σ' r' = o_trv n d blk σ r →
        ev_E g m_X11_passes 5 0 24 [some (ev_o 11 a), some (ev_i (Int32.ofNat dp)), some (ev_i (Int32.ofNat k)), some (ev_i (Int32.ofNat L))] [] T Q := fun T r' σ' t0 t1 t2 t3 t4 t5 t6 => by
      have e4 : T.1 a 4 = Int32.ofNat L := (t5.1 4 (by omega)).trans t1.2.2.2.2.1
      refine sg_X11_passes_24 a _ _ _ (j_pos (by rw [e4, n_le (by omega) (by omega)]; exact Nat.le_refl _) ?_)
      rw [n_inc]
      exact ih (k + 1) T r' σ' (by omega) (by omega) t1 t2 (by rw [show k + 1 - 1 = k by omega]; exact t3) t4 t5 ((t0.2.1 32 (by omega)).trans hs) Q (fun z z1 z2 => hQ z (w_kp_tr t0 z1) (by rw [← t6]; exact z2))
    -- no letter of this number
    have none_ : (∀ l, l ∈ σ → ¬ r (1200 + 11 * l + 8) = Int32.ofNat k) → ev_E g m_X11_passes 5 0 24 [some (ev_o 11 a), some (ev_i (Int32.ofNat dp)), some (ev_i (Int32.ofNat k)), some (ev_i (Int32.ofNat 0))] [] S Q := fun hno => by
      have hgt : ∀ l, l < L → r (1200 + 11 * l + 6) = 1 → ¬ r (1200 + 11 * l + 8) ≤ Int32.ofNat (k - 1) → ¬ r (1200 + 11 * l + 8) ≤ Int32.ofNat k := fun l hl h1 h2 h3 => by
        have hm := hro.2.2 l hl h1 h2
        refine hno l hm ?_
        rw [z_le, n_i (by omega)] at h2 h3
        rw [z_eq, n_i (by omega)]
        omega
      have hup : ∀ x : Int32, x ≤ Int32.ofNat (k - 1) → x ≤ Int32.ofNat k := fun x h3 => by
        rw [z_le, n_i (by omega)] at h3 ⊢
        omega
      refine w_skip hL (by omega) h4 h L 0 (by omega) (fun l l1 l2 hh => ?_) (by rw [Nat.zero_add]; exact out S r σ (w_kp_rf S a) hI hbd ⟨fun l hl => ⟨(hro.1 l hl).1, (hro.1 l hl).2.1, hgt l (hro.1 l hl).1 (hro.1 l hl).2.1 (hro.1 l hl).2.2⟩, hro.2.1, fun l hl h1 h2 => hro.2.2 l hl h1 (fun h3 => h2 (hup _ h3))⟩ hle h rfl)
      refine hno l (hro.2.2 l (by omega) hh.1 ?_) hh.2
      rw [hh.2, n_le (by omega) (by omega)]
      omega
    cases σ with
    | nil => exact none_ (fun l hl => by simp at hl)
    | cons x σ =>
      obtain ⟨b1, b2, b3⟩ := hro.1 x List.mem_cons_self
      have hpw := List.pairwise_cons.mp hro.2.1
      by_cases hxk : r (1200 + 11 * x + 8) = Int32.ofNat k
      · have only : ∀ l, l < L → l ≠ x → ¬ (r (1200 + 11 * l + 6) = 1 ∧ r (1200 + 11 * l + 8) = Int32.ofNat k) := fun l hl hlx hh => by
          have hm := hro.2.2 l hl hh.1 (by rw [hh.2, n_le (by omega) (by omega)]; omega)
          rcases List.mem_cons.mp hm with h9 | h9
          · exact hlx h9
          · have := hpw.1 l h9
            rw [hxk, hh.2, z_lt] at this
            omega
        refine w_skip hL (by omega) h4 h x 0 (by omega) (fun l l1 l2 => only l (by omega) (by omega)) ?_
        rw [Nat.zero_add]
        obtain ⟨c1, c2⟩ := IR_goes hI b1
        have hro2 := i_road_next hI hro
        have c8 : ∀ l, o_goes r n d x (o_b r x) (o_q r x) blk (1200 + 11 * l + 8) = r (1200 + 11 * l + 8) := fun l => c2 _ (by omega) (by omega) (by omega) (by omega)
        refine w_one hI hbd b1 b2 hxk h hs (fun z z1 z2 => ?_)
        refine w_skip hL (by omega) c1.2.2.2.2.1 z2 (L - (x + 1)) (x + 1) (by omega) (fun l l1 l2 hh => ?_) ?_
        · rw [c8, c2 _ (by omega) (by omega) (by omega) (by omega)] at hh
          exact only l (by omega) (by omega) hh
        · rw [show x + 1 + (L - (x + 1)) = L by omega]
          rw [c8, hxk] at hro2
          exact out z _ σ z1 c1 (i_bd_goes hI hbd b1) hro2 (fun l hl => by rw [c8]; exact hle l (List.mem_cons_of_mem _ hl)) z2 rfl
      · refine none_ (fun l hl => ?_)
        rcases List.mem_cons.mp hl with h9 | h9
        · rw [h9]; exact hxk
        · intro h10
          have := hpw.1 l h9
          rw [h10, z_lt, n_i (by omega)] at this
          rw [z_le, n_i (by omega)] at b3
          refine hxk ?_
          rw [z_eq, n_i (by omega)]
          omega
