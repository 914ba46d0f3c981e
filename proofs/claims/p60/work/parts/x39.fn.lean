/-! ===== text comes and goes ===== -/
theorem sh_key (b : BitVec 32) (k : Nat) (hk : k ≤ 24) : (b.sshiftRight k) &&& 255#32 = (b >>> k) &&& 255#32 := by
  apply BitVec.eq_of_getLsbD_eq
  intro i hi
  rw [BitVec.getLsbD_and, BitVec.getLsbD_and, BitVec.getLsbD_sshiftRight, BitVec.getLsbD_ushiftRight]
  by_cases h8 : i < 8
  · rw [if_pos (by omega)]
    have : (!decide (32 ≤ i)) = true := by simp; omega
    rw [this, Bool.true_and]
  · have h255 : (255#32).getLsbD i = false := by
      have : ∀ j : Fin 32, 8 ≤ j.val → (255#32).getLsbD j.val = false := by decide
      exact this ⟨i, hi⟩ (by show 8 ≤ i; omega)
    rw [h255, Bool.and_false, Bool.and_false]
theorem sh_eq {x s : Int32} (hs : s = 24 ∨ s = 16 ∨ s = 8 ∨ s = 0) : j_ishr x s &&& 255 = j_iushr x s &&& 255 := by
  rcases hs with rfl | rfl | rfl | rfl
  · exact Int32.toBitVec_inj.mp (sh_key x.toBitVec 24 (by omega))
  · exact Int32.toBitVec_inj.mp (sh_key x.toBitVec 16 (by omega))
  · exact Int32.toBitVec_inj.mp (sh_key x.toBitVec 8 (by omega))
  · exact Int32.toBitVec_inj.mp (sh_key x.toBitVec 0 (by omega))
theorem by_n1 {x : Int32} : ¬ x &&& 255 = -1 := by
  intro h
  have h1 := congrArg (fun t : Int32 => t.toBitVec.getLsbD 31) h
  have h2 : (x &&& 255).toBitVec = x.toBitVec &&& 255#32 := rfl
  simp only [h2, BitVec.getLsbD_and] at h1
  have h3 : (255#32).getLsbD 31 = false := by decide
  have h4 : (-1 : Int32).toBitVec.getLsbD 31 = true := by decide
  rw [h3, h4, Bool.and_false] at h1
  exact absurd h1 (by decide)
def byo (u s : Int32) : Int32 := j_iushr u s &&& 255
def bl (u : Int32) : List Int32 → List Int32
  | [] => []
  | s :: ss => if byo u s = 0 then bl u ss else byo u s :: bl u ss
def chn : List Int32 → Int32 → Prop
  | [], u => u < 0
  | s :: ss, u => u = s ∧ ¬ s < 0 ∧ (s = 24 ∨ s = 16 ∨ s = 8 ∨ s = 0) ∧ chn ss (s + (-8))
abbrev b4 (u : Int32) : List Int32 := bl u [24, 16, 8, 0]
theorem chn4 : chn [24, 16, 8, 0] 24 := by
  refine ⟨rfl, by decide, Or.inl rfl, rfl, by decide, Or.inr (Or.inl rfl), rfl, by decide, Or.inr (Or.inr (Or.inl rfl)), rfl, by decide, Or.inr (Or.inr (Or.inr rfl)), ?_⟩
  show (0 : Int32) + (-8) < 0
  decide
theorem bl_le (u : Int32) : ∀ ss, (bl u ss).length ≤ ss.length := by
  intro ss
  induction ss with
  | nil => exact Nat.le_refl _
  | cons s ss ih =>
    rw [bl]
    by_cases h : byo u s = 0
    · rw [if_pos h, List.length_cons]; omega
    · rw [if_neg h, List.length_cons, List.length_cons]; omega
theorem bl_n1 (u : Int32) : ∀ ss v, v ∈ bl u ss → ¬ v = -1 := by
  intro ss
  induction ss with
  | nil => intro v hv; simp [bl] at hv
  | cons s ss ih =>
    intro v hv
    rw [bl] at hv
    by_cases h : byo u s = 0
    · rw [if_pos h] at hv; exact ih v hv
    · rw [if_neg h] at hv
      rcases List.mem_cons.mp hv with rfl | hv
      · exact by_n1
      · exact ih v hv
/-- bytes put into a row from k on -/
def app (R : Nat → Int32) (k : Nat) : List Int32 → (Nat → Int32)
  | [] => R
  | v :: W => app (upd R k v) (k + 1) W
def apx (R : Nat → Int32) (k : Nat) : List Int32 → (Nat → Int32)
  | [] => R
  | v :: W => if 800 ≤ k then apx R (k + 1) W else apx (upd R k v) (k + 1) W
theorem app_lt : ∀ (W : List Int32) (R : Nat → Int32) (k j : Nat), j < k → app R k W j = R j := by
  intro W
  induction W with
  | nil => intro R k j _; rfl
  | cons v W ih =>
    intro R k j h
    rw [app, ih _ _ _ (by omega), u_k (by omega)]
theorem app_in : ∀ (W : List Int32) (R R' : Nat → Int32) (k j : Nat), k ≤ j → j < k + W.length → app R k W j = app R' k W j ∧ app R k W j ∈ W := by
  intro W
  induction W with
  | nil => intro R R' k j h1 h2; simp at h2; omega
  | cons v W ih =>
    intro R R' k j h1 h2
    rw [List.length_cons] at h2
    rw [app, app]
    by_cases hk : j = k
    · rw [hk, app_lt _ _ _ _ (by omega), app_lt _ _ _ _ (by omega), u_s, u_s]
      exact ⟨rfl, List.mem_cons_self ..⟩
    · obtain ⟨a1, a2⟩ := ih (upd R k v) (upd R' k v) (k + 1) j (by omega) (by omega)
      exact ⟨a1, List.mem_cons_of_mem _ a2⟩
theorem app_app : ∀ (W V : List Int32) (R : Nat → Int32) (k : Nat), app (app R k W) (k + W.length) V = app R k (W ++ V) := by
  intro W
  induction W with
  | nil => intro V R k; rfl
  | cons v W ih =>
    intro V R k
    rw [List.cons_append, app, app, List.length_cons, ← ih, show k + (W.length + 1) = k + 1 + W.length by omega]
theorem apx_app : ∀ (W : List Int32) (R : Nat → Int32) (k : Nat), k + W.length ≤ 800 → apx R k W = app R k W := by
  intro W
  induction W with
  | nil => intro R k _; rfl
  | cons v W ih =>
    intro R k h
    rw [List.length_cons] at h
    rw [apx, app, if_neg (by omega)]
    exact ih _ _ (by omega)
theorem apx_lt : ∀ (W : List Int32) (R : Nat → Int32) (k j : Nat), j < k → apx R k W j = R j := by
  intro W
  induction W with
  | nil => intro R k j _; rfl
  | cons v W ih =>
    intro R k j h
    rw [apx]
    by_cases h8 : 800 ≤ k
    · rw [if_pos h8]; exact ih _ _ _ (by omega)
    · rw [if_neg h8, ih _ _ _ (by omega), u_k (by omega)]
theorem apx_apx : ∀ (W V : List Int32) (R : Nat → Int32) (k : Nat), apx (apx R k W) (k + W.length) V = apx R k (W ++ V) := by
  intro W
  induction W with
  | nil => intro V R k; rfl
  | cons v W ih =>
    intro V R k
    rw [List.cons_append, apx, apx, List.length_cons, show k + (W.length + 1) = k + 1 + W.length by omega]
    by_cases h8 : 800 ≤ k
    · rw [if_pos h8, if_pos h8]; exact ih V _ _
    · rw [if_neg h8, if_neg h8]; exact ih V _ _
/-! the class -/
theorem t_bytesIn {g : ev_G} {S : ev_S} (u : Int32) : ev_Fn g m_X9_bytesIn 1 [ev_i u] S (some (ev_i (Int32.ofNat (b4 u).length))) S := by
  intro Q hQ
  have key : ∀ (ss : List Int32) (w : Int32) (k : Nat), chn ss w → k + (bl u ss).length = (b4 u).length → ev_E g m_X9_bytesIn 1 0 5 [some (ev_i u), some (ev_i (Int32.ofNat k)), some (ev_i w)] [] S Q := by
    intro ss
    induction ss with
    | nil =>
      intro w k hw hk
      have hk' : k = (b4 u).length := hk
      subst hk'
      exact sg_X9_bytesIn_5 _ _ _ (j_pos hw hQ)
    | cons s ss ih =>
      intro w k hw hk
      obtain ⟨rfl, h1, h2, h3⟩ := hw
      rw [bl] at hk
      refine sg_X9_bytesIn_5 _ _ _ (j_neg h1 ⟨fun h0 => ?_, fun h0 => ?_⟩)
      · have h0' : byo u w = 0 := h0
        rw [if_pos h0'] at hk
        exact ih _ k h3 hk
      · have h0' : ¬ byo u w = 0 := h0
        rw [if_neg h0', List.length_cons] at hk
        rw [n_inc]
        exact ih _ (k + 1) h3 (by omega)
  exact sg_X9_bytesIn_0 _ (key [24, 16, 8, 0] 24 0 chn4 (Nat.zero_add _))
def txa (S z : ev_S) (a k : Nat) (W : List Int32) : Prop := z.2 = S.2 ∧ (∀ q, q ≠ a + 1 → q ≠ a + 2 → z.1 q = S.1 q) ∧ z.1 (a + 1) 1 = Int32.ofNat (k + W.length) ∧ z.1 (a + 2) = app (S.1 (a + 2)) k W
theorem t_addBytes {g : ev_G} {a : Nat} {u : Int32} : ∀ (ss : List Int32) (w : Int32) (k : Nat) (S : ev_S) (Q : ev_O → ev_S → Prop), chn ss w → S.1 (a + 1) 1 = Int32.ofNat k → k + (bl u ss).length ≤ 800 → (∀ z, txa S z a k (bl u ss) → Q (.inl none) z) → ev_E g m_X9_addBytes 3 0 3 [some (ev_o 9 a), some (ev_i u), some (ev_i w), none] [] S Q := by
  have e800 : (800 : Int32) = Int32.ofNat 800 := rfl
  intro ss
  induction ss with
  | nil =>
    intro w k S Q hw h1 hk hQ
    exact sg_X9_addBytes_3 a _ _ (j_pos hw (hQ S ⟨rfl, fun _ _ _ => rfl, h1, rfl⟩))
  | cons s ss ih =>
    intro w k S Q hw hk1 hk hQ
    obtain ⟨rfl, h1, h2, h3⟩ := hw
    rw [bl] at hk hQ
    refine sg_X9_addBytes_3 a _ _ (j_neg h1 ⟨fun h0 => ?_, fun h0 => ?_⟩)
    · have h0' : byo u w = 0 := h0
      rw [if_pos h0'] at hk hQ
      exact ih _ k S Q h3 hk1 hk hQ
    · have h0' : ¬ byo u w = 0 := h0
      rw [if_neg h0'] at hk hQ
      rw [List.length_cons] at hk
      refine sg_X8_add_0 (a + 1) _ (j_neg (by rw [hk1, e800, n_le (by omega) (by omega)]; omega) (fun S1 e1 S2 e2 => ⟨rfl, ?_⟩))
      rw [hk1, a_put (by omega) (by omega)] at e1
      have e1' : S1 = ev_up S (a + 2) k (byo u w) := e1
      have s1 : S1.1 (a + 1) 1 = Int32.ofNat k := by rw [e1', m_r (by omega)]; exact hk1
      rw [s1, n_inc] at e2
      refine ih _ (k + 1) S2 Q h3 (by rw [e2, m_s]) (by omega) (fun z hz => ?_)
      obtain ⟨z1, z2, z3, z4⟩ := hz
      refine hQ z ⟨by rw [z1, e2, e1']; rfl, fun q q1 q2 => by rw [z2 q q1 q2, e2, m_r q1, e1', m_r q2], by rw [z3, List.length_cons]; exact congrArg Int32.ofNat (by omega), ?_⟩
      rw [z4, e2, m_r (by omega), e1', m_u, r_s]
      rfl
theorem txa_tr {S z y : ev_S} {a k : Nat} {W V : List Int32} (h : txa S z a k W) (h2 : txa z y a (k + W.length) V) : txa S y a k (W ++ V) := by
  obtain ⟨a1, a2, a3, a4⟩ := h
  obtain ⟨b1, b2, b3, b4⟩ := h2
  refine ⟨b1.trans a1, fun q q1 q2 => (b2 q q1 q2).trans (a2 q q1 q2), by rw [b3, List.length_append]; exact congrArg Int32.ofNat (by omega), ?_⟩
  rw [b4, a4]
  exact app_app _ _ _ _
/-! the reference -/
def txr (S z : ev_S) (m k : Nat) (W : List Int32) : Prop := z.2 = S.2 ∧ (∀ q, q ≠ m → q ≠ m + 7 → z.1 q = S.1 q) ∧ z.1 m 10 = Int32.ofNat (k + W.length) ∧ (∀ j, j ≠ 10 → z.1 m j = S.1 m j) ∧ z.1 (m + 7) = apx (S.1 (m + 7)) k W
theorem txr_tr {S z y : ev_S} {m k : Nat} {W V : List Int32} (h : txr S z m k W) (h2 : txr z y m (k + W.length) V) : txr S y m k (W ++ V) := by
  obtain ⟨a1, a2, a3, a4, a5⟩ := h
  obtain ⟨b1, b2, b3, b4, b5⟩ := h2
  refine ⟨b1.trans a1, fun q q1 q2 => (b2 q q1 q2).trans (a2 q q1 q2), by rw [b3, List.length_append]; exact congrArg Int32.ofNat (by omega), fun j hj => (b4 j hj).trans (a4 j hj), ?_⟩
  rw [b5, a5]
  exact apx_apx _ _ _ _
