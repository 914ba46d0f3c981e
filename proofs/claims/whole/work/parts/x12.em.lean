/-! ===== a script: the class reads a command ===== -/
def ls_sz {α : Type} (f : α → Nat) : List α → Nat
  | [] => 0
  | x :: L => f x + ls_sz f L
def at_sz : (l : Nat) → AT l → Nat
  | 0 => fun _ => 1
  | l + 1 => fun x => match (x : A0 ⊕ (Nat × List (AT l))) with
    | .inl _ => 1
    | .inr q => 2 + ls_sz (at_sz l) q.2
def q_cmd (C A : Nat → Int32) (off : Nat) (c : A0) : Prop := C off = Int32.ofNat (c.1 + 1) ∧ c.1 ≤ 5 ∧ c.2.length ≤ 6 ∧ ∀ w x, c.2[w]? = some x → A (off * 6 + w) = x
def q_cds {α : Type} (sz : α → Nat) (one : Nat → α → Prop) : Nat → List α → Prop
  | _, [] => True
  | off, x :: L => one off x ∧ q_cds sz one (off + sz x) L
def q_code (C A P : Nat → Int32) : (l : Nat) → Nat → AT l → Prop
  | 0 => fun off c => q_cmd C A off c
  | l + 1 => fun off x => match (x : A0 ⊕ (Nat × List (AT l))) with
    | .inl c => q_cmd C A off c
    | .inr q => C off = 7 ∧ A (off * 6) = Int32.ofNat q.1 ∧ q.1 ≤ 20 ∧ C (off + 1 + ls_sz (at_sz l) q.2) = 8 ∧ P (off + 1 + ls_sz (at_sz l) q.2) = Int32.ofNat off ∧ P off = Int32.ofNat (off + 1 + ls_sz (at_sz l) q.2) ∧ q_cds (at_sz l) (q_code C A P l) (off + 1) q.2
theorem at_sz_pos : ∀ (l : Nat) (x : AT l), 1 ≤ at_sz l x := by
  intro l x
  cases l with
  | zero => exact Nat.le_refl 1
  | succ l =>
    match (x : A0 ⊕ (Nat × List (AT l))) with
    | .inl c => exact Nat.le_refl 1
    | .inr q => exact (show 1 ≤ 2 + ls_sz (at_sz l) q.2 by omega)
theorem q_cds_imp {α : Type} {sz : α → Nat} {one one' : Nat → α → Prop} : ∀ (L : List α) (off : Nat), (∀ off' x, off ≤ off' → off' + sz x ≤ off + ls_sz sz L → one off' x → one' off' x) → q_cds sz one off L → q_cds sz one' off L := by
  intro L
  induction L with
  | nil => intro off _ _; trivial
  | cons x L ih =>
    intro off h hc
    rw [ls_sz] at h
    exact ⟨h off x (Nat.le_refl _) (by omega) hc.1, ih (off + sz x) (fun off' y h1 h2 => h off' y (by omega) (by omega)) hc.2⟩
theorem q_cmd_fr {C A C' A' : Nat → Int32} {off : Nat} {c : A0} (h1 : C' off = C off) (h2 : ∀ j, off * 6 ≤ j → j < (off + 1) * 6 → A' j = A j) (h : q_cmd C A off c) : q_cmd C' A' off c := by
  obtain ⟨a1, a2, a3, a4⟩ := h
  refine ⟨h1.trans a1, a2, a3, fun w x hw => ?_⟩
  have hl : w < c.2.length := by
    by_cases hh : w < c.2.length
    · exact hh
    · rw [List.getElem?_eq_none (by omega)] at hw
      exact absurd hw (by simp)
  rw [h2 _ (by omega) (by omega)]
  exact a4 w x hw
theorem q_code_fr {C A P C' A' P' : Nat → Int32} : ∀ (l off : Nat) (x : AT l), (∀ j, off ≤ j → j < off + at_sz l x → C' j = C j ∧ P' j = P j) → (∀ j, off * 6 ≤ j → j < (off + at_sz l x) * 6 → A' j = A j) → q_code C A P l off x → q_code C' A' P' l off x := by
  intro l
  induction l with
  | zero =>
    intro off x h1 h2 h
    have e : at_sz 0 x = 1 := rfl
    rw [e] at h1 h2
    exact q_cmd_fr (h1 off (Nat.le_refl _) (by omega)).1 h2 h
  | succ l ih =>
    intro off x h1 h2 h
    match (x : A0 ⊕ (Nat × List (AT l))) with
    | .inl c =>
      have e : at_sz (l + 1) (Sum.inl c : A0 ⊕ (Nat × List (AT l))) = 1 := rfl
      rw [e] at h1 h2
      exact q_cmd_fr (h1 off (Nat.le_refl _) (by omega)).1 h2 h
    | .inr q =>
      have e : at_sz (l + 1) (Sum.inr q : A0 ⊕ (Nat × List (AT l))) = 2 + ls_sz (at_sz l) q.2 := rfl
      rw [e] at h1 h2
      obtain ⟨a1, a2, a3, a4, a5, a6, a7⟩ := h
      refine ⟨(h1 off (by omega) (by omega)).1.trans a1, (h2 _ (by omega) (by omega)).trans a2, a3, (h1 _ (by omega) (by omega)).1.trans a4, (h1 _ (by omega) (by omega)).2.trans a5, (h1 _ (by omega) (by omega)).2.trans a6, ?_⟩
      exact q_cds_imp q.2 (off + 1) (fun off' y k1 k2 => ih off' y (fun j j1 j2 => h1 j (by omega) (by omega)) (fun j j1 j2 => h2 j (by omega) (by omega))) a7
/-- where the reading of a script stands -/
def q_ps (M : Nat → Nat → Int32) (b n : Nat) (T : Nat → Int32) (s len c d : Nat) : Prop := q_tk M (b + 1) n T s ∧ M (b + 3) 5 = Int32.ofNat len ∧ M (b + 3) 6 = Int32.ofNat c ∧ M (b + 3) 7 = Int32.ofNat d
def q_kp3 (M M' : Nat → Nat → Int32) (b len d : Nat) : Prop := (∀ j, j < len → M' (b + 4) j = M (b + 4) j ∧ M' (b + 6) j = M (b + 6) j) ∧ (∀ j, j < len * 6 → M' (b + 5) j = M (b + 5) j) ∧ ∀ j, j < d → M' (b + 8) j = M (b + 8) j
theorem q_kp3_tr {M M' M'' : Nat → Nat → Int32} {b len d len' d' : Nat} (h : q_kp3 M M' b len d) (h2 : q_kp3 M' M'' b len' d') (hl : len ≤ len') (hd : d ≤ d') : q_kp3 M M'' b len d :=
  ⟨fun j hj => ⟨((h2.1 j (by omega)).1).trans (h.1 j hj).1, ((h2.1 j (by omega)).2).trans (h.1 j hj).2⟩, fun j hj => (h2.2.1 j (by omega)).trans (h.2.1 j hj), fun j hj => (h2.2.2 j (by omega)).trans (h.2.2 j hj)⟩
def p_rc (T : Nat → Int32) (n d c s : Nat) : (Int32 × Nat) ⊕ ((A0 ⊕ Int32) × Nat) :=
  if p_kind T n s = 7 then .inl (1, x_B T n s)
  else if 30 ≤ c then .inl (4, x_B T n s)
  else if p_kind T n s = 6 then p_bd (p_num T n (x_E T n s) 0 20) (fun u => if p_sg T n u.2 40 = true then (if 2 ≤ d then .inl (4, x_B T n u.2) else .inr (.inr u.1, x_E T n u.2)) else .inl (1, x_B T n u.2))
  else p_bd (p_sing T n (p_kind T n s) (x_E T n s)) (fun u => .inr (.inl u.1, u.2))
theorem p_args_1 {T : Nat → Int32} {n s : Nat} {lo hi : Int32} : p_args T n [(lo, hi)] s = p_bd (p_num T n s lo hi) (fun u => .inr ([u.1], u.2)) := rfl
theorem p_args_len {T : Nat → Int32} {n : Nat} : ∀ (R : List (Int32 × Int32)) (s : Nat) (L : List Int32) (s' : Nat), p_args T n R s = .inr (L, s') → L.length = R.length := by
  intro R
  induction R with
  | nil => intro s L s' h; rw [p_args] at h; cases h; rfl
  | cons q R ih =>
    intro s L s' h
    rw [p_args] at h
    cases hp : p_num T n s q.1 q.2 with
    | inl e => rw [hp] at h; simp only [p_bd] at h; cases h
    | inr u =>
      rw [hp] at h
      simp only [p_bd] at h
      cases hp2 : p_args T n R u.2 with
      | inl e => rw [hp2] at h; cases h
      | inr v =>
        rw [hp2] at h
        cases h
        have := ih u.2 v.1 v.2 hp2
        simp [this]
theorem t_rc {g : ev_G} {S0 z : ev_S} {b n s len c d : Nat} {T : Nat → Int32} (hn : n ≤ 800) (hs : s ≤ n) (hd : d ≤ 2) (hlc : len + d ≤ 2 * c) (hc100 : c ≤ 30) (h : q_ps z.1 b n T s len c d) (hr : q_sr S0 z b) {Q : ev_O → ev_S → Prop}
    (q1 : ∀ e p, p_rc T n d c s = .inl (e, p) → ∀ y, q_sr S0 y b → q_te y.1 (b + 1) e p → Q (.inl none) y)
    (q2 : ∀ c0 s', p_rc T n d c s = .inr (.inl c0, s') → s < s' → s' ≤ n → ∀ y, q_ps y.1 b n T s' (len + 1) (c + 1) d → q_sr S0 y b → q_kp3 z.1 y.1 b len 2 → q_cmd (y.1 (b + 4)) (y.1 (b + 5)) len c0 → len + 1 + d ≤ 2 * (c + 1) → Q (.inl none) y)
    (q3 : ∀ v s', p_rc T n d c s = .inr (.inr v, s') → s < s' → s' ≤ n → 0 ≤ v → v ≤ 20 → d < 2 → ∀ y, q_ps y.1 b n T s' (len + 1) (c + 1) (d + 1) → q_sr S0 y b → q_kp3 z.1 y.1 b len d → y.1 (b + 8) d = Int32.ofNat len → y.1 (b + 4) len = 7 → y.1 (b + 5) (len * 6) = v → len + 1 + (d + 1) ≤ 2 * (c + 1) → len < 60 → Q (.inl none) y) :
    ev_Cv g m_X7_readCommand 7 0 [ev_o 7 (b + 3), ev_o 8 (b + 1)] z Q := by
  obtain ⟨ht, h5, h6, h7⟩ := h
  have e30 : (30 : Int32) = Int32.ofNat 30 := rfl
  have hkl := p_kind_le (T := T) (n := n) (s := s)
  refine sg_X7_readCommand_0 (b + 3) (b + 1) (t_cmdOf hn hs ht _ ⟨_, rfl, ?_⟩)
  unfold p_rc at q1 q2 q3
  by_cases hk7 : p_kind T n s = 7
  · rw [if_pos hk7]
    rw [if_pos hk7] at q1
    exact j_pos rfl (t_fail (by decide) ht (fun y y1 y2 => ⟨rfl, q1 _ _ rfl y (q_sr_1 hr y1) y2⟩))
  rw [if_neg hk7] at q1 q2 q3 ⊢
  refine j_neg (n_m1' (by omega)) ?_
  rw [h6, e30]
  by_cases hc30 : 30 ≤ c
  · rw [if_pos hc30] at q1
    refine j_neg ?_ (t_fail (by decide) ht (fun y y1 y2 => ⟨rfl, q1 _ _ rfl y (q_sr_1 hr y1) y2⟩))
    rw [n_lt (by omega) (by omega)]
    omega
  have hc : c < 30 := by omega
  rw [if_neg (by omega)] at q1 q2 q3
  refine j_pos (by rw [n_lt (by omega) (by omega)]; exact hc) ?_
  rw [n_inc]
  intro S2 e2
  obtain ⟨k0, hw⟩ := p_kind_w (T := T) (n := n) (s := s) (by omega)
  have hlt := x_w_lt hs hw
  have he := x_E_le (T := T) hs
  have ht2 : q_tk S2.1 (b + 1) n T s := q_tk_frame ht (by rw [e2, m_r (by omega)]) (by rw [e2, m_r (by omega)])
  have hr2 : q_sr S0 S2 b := by rw [e2]; exact q_sr_up hr (by omega) (by omega)
  refine t_stp hn hs ht2 (fun S3 z1 z2 _ => ⟨rfl, ?_⟩)
  have hr3 := q_sr_1 hr2 z1
  have f3 : ∀ q, q ≠ b + 1 → q ≠ b + 3 → S3.1 q = z.1 q := fun q h1 h3 => by rw [z1.2 q h1, e2, m_r h3]
  have g3 : ∀ i, i ≠ 6 → S3.1 (b + 3) i = z.1 (b + 3) i := fun i hi => by rw [z1.2 _ (by omega), e2, m_k hi]
  have g36 : S3.1 (b + 3) 6 = Int32.ofNat (c + 1) := by rw [z1.2 _ (by omega), e2, m_s]
  have hlen : len < 60 := by omega
  -- all the numbers are read at 53
  have go : ∀ k, k ≤ 6 → (∀ e p, p_args T n (p_rg k) (x_E T n s) = .inl (e, p) → ∀ y, q_sr S0 y b → q_te y.1 (b + 1) e p → Q (.inl none) y) →
      (∀ L s', p_args T n (p_rg k) (x_E T n s) = .inr (L, s') → x_E T n s ≤ s' → s' ≤ n → ∀ y, q_tk y.1 (b + 1) n T s' → q_sr S0 y b → (∀ q, q ≠ b + 1 → q ≠ b + 5 → y.1 q = S3.1 q) → (∀ j, j < len * 6 → y.1 (b + 5) j = S3.1 (b + 5) j) → (∀ w x, L[w]? = some x → y.1 (b + 5) (len * 6 + w) = x) →
        ev_E g m_X7_readCommand 7 0 53 [some (ev_o 7 (b + 3)), some (ev_o 8 (b + 1)), some (ev_i (Int32.ofNat (k + 1))), some (ev_x 1 (12 + k)), some (ev_i (Int32.ofNat (ev_le.getD (12 + k) 0))), none] [] y Q) →
      ev_E g m_X7_readCommand 7 0 53 [some (ev_o 7 (b + 3)), some (ev_o 8 (b + 1)), some (ev_i (Int32.ofNat (k + 1))), some (ev_x 1 (12 + k)), some (ev_i 0), none] [] S3 Q := fun k hk p1 p2 =>
    rc53 (S0 := S0) hn hlen hk (ev_le.getD (12 + k) 0) 0 (x_E T n s) S3 (Nat.zero_add _) he.2 z2 (by rw [g3 5 (by omega)]; exact h5) hr3 p1 (fun L s' hp k1 k2 y y1 y2 y3 y4 y5 => p2 L s' hp k1 k2 y y1 y2 y3 y4 (fun w x hw => by have := y5 w x hw; exact this))
  have sing : ∀ k, k ≤ 5 → p_kind T n s = k → ev_E g m_X7_readCommand 7 0 53 [some (ev_o 7 (b + 3)), some (ev_o 8 (b + 1)), some (ev_i (Int32.ofNat (k + 1))), some (ev_x 1 (12 + k)), some (ev_i 0), none] [] S3 Q := by
    intro k hk5 hk
    rw [hk, if_neg (by omega)] at q1 q2
    unfold p_sing at q1 q2
    obtain ⟨r1, r2, r3⟩ := rg_end (k := k) (by omega)
    refine go k (by omega) (fun e p hp => ?_) (fun L s' hp k1 k2 y y1 y2 y3 y4 y5 => ?_)
    · rw [hp] at q1
      exact q1 e p rfl
    · rw [hp] at q1 q2
      simp only [p_bd] at q1 q2
      have hL := p_args_len _ _ _ _ hp
      refine sg_X7_readCommand_53 (b + 3) (b + 1) _ _ _ (j_pos (by rw [j_sh0]; exact Int32.le_refl _) (j_neg ?_ ?_))
      · have e7 : (7 : Int32) = Int32.ofNat 7 := rfl
        rw [e7, n_eq (by omega) (by omega)]
        omega
      have y35 : y.1 (b + 3) 5 = Int32.ofNat len := by rw [y3 _ (by omega) (by omega), g3 5 (by omega)]; exact h5
      refine t_expS hn k2 y1 (fun c10 x x1 x2 => ⟨rfl, fun S5 e5 S6 e6 => ?_⟩) (fun c10 x3 x4 x x1 x2 => ⟨rfl, fun S5 e5 S6 e6 => ?_⟩)
      · rw [p_sgn, if_neg c10] at q1
        refine q1 _ _ rfl S6 (by rw [e6, e5]; exact q_sr_up (q_sr_jp (q_sr_1 y2 x1) (by omega) (by omega)) (by omega) (by omega)) ?_
        unfold q_te
        rw [e6, m_r (by omega), e5, jp_r (by omega)]
        exact x2
      · rw [p_sgn, if_pos c10] at q2
        have x35 : x.1 (b + 3) 5 = Int32.ofNat len := by rw [x1.2 _ (by omega)]; exact y35
        rw [x35, a_put (by omega) (by omega)] at e5
        have e55 : S5.1 (b + 3) 5 = Int32.ofNat len := by rw [e5, m_r (by omega)]; exact x35
        rw [e55, n_inc] at e6
        have fx : ∀ q, q ≠ b + 1 → q ≠ b + 5 → q ≠ b + 3 → q ≠ b + 4 → S6.1 q = z.1 q := fun q h1 h5 h3 h4 => by rw [e6, m_r h3, e5, m_r h4, x1.2 q h1, y3 q h1 h5, f3 q h1 h3]
        have f5 : S6.1 (b + 5) = y.1 (b + 5) := by rw [e6, m_r (by omega), e5, m_r (by omega), x1.2 _ (by omega)]
        have f4 : S6.1 (b + 4) = upd (z.1 (b + 4)) len (Int32.ofNat (k + 1)) := by rw [e6, m_r (by omega), e5, m_u, show b + 3 + 1 = b + 4 from rfl, r_s, x1.2 _ (by omega), y3 _ (by omega) (by omega), f3 _ (by omega) (by omega)]
        refine q2 (k, L) _ rfl (by omega) x4 S6 ⟨q_tk_frame x2 (by rw [e6, m_r (by omega), e5, m_r (by omega)]) (by rw [e6, m_r (by omega), e5, m_r (by omega)]), by rw [e6, m_s], ?_, ?_⟩ ?_ ⟨fun j hj => ⟨?_, ?_⟩, fun j hj => ?_, fun j hj => ?_⟩ ⟨?_, hk5, ?_, fun w x hw => ?_⟩ (by omega)
        · rw [e6, m_k (by omega), e5, m_r (by omega), x1.2 _ (by omega), y3 _ (by omega) (by omega)]; exact g36
        · rw [e6, m_k (by omega), e5, m_r (by omega), x1.2 _ (by omega), y3 _ (by omega) (by omega), g3 7 (by omega)]; exact h7
        · rw [e6, e5]; exact q_sr_up (q_sr_up (q_sr_1 y2 x1) (by omega) (by omega)) (by omega) (by omega)
        · rw [f4, u_k (by omega)]
        · rw [fx _ (by omega) (by omega) (by omega) (by omega)]
        · rw [f5, y4 j hj, f3 _ (by omega) (by omega)]
        · rw [fx _ (by omega) (by omega) (by omega) (by omega)]
        · rw [f4, u_s]
        · show L.length ≤ 6
          omega
        · rw [f5]
          exact y5 w x hw
  have rep : p_kind T n s = 6 → ev_E g m_X7_readCommand 7 0 53 [some (ev_o 7 (b + 3)), some (ev_o 8 (b + 1)), some (ev_i (Int32.ofNat (6 + 1))), some (ev_x 1 (12 + 6)), some (ev_i 0), none] [] S3 Q := by
    intro hk
    rw [hk, if_pos rfl] at q1 q3
    have er : p_rg 6 = [(0, 20)] := rfl
    refine go 6 (by omega) (fun e p hp => ?_) (fun L s' hp k1 k2 y y1 y2 y3 y4 y5 => ?_)
    · rw [er, p_args_1] at hp
      cases hp2 : p_num T n (x_E T n s) 0 20 with
      | inl e' =>
        rw [hp2] at hp q1
        simp only [p_bd] at hp q1
        have hp' := Sum.inl.inj hp
        rw [hp'] at q1
        exact q1 e p rfl
      | inr u =>
        rw [hp2] at hp
        simp only [p_bd] at hp
        cases hp
    · rw [er, p_args_1] at hp
      cases hp2 : p_num T n (x_E T n s) 0 20 with
      | inl e' =>
        rw [hp2] at hp
        simp only [p_bd] at hp
        cases hp
      | inr u =>
        rw [hp2] at hp q1 q3
        simp only [p_bd] at hp q1 q3
        have hp' := Sum.inr.inj hp
        have hL : [u.1] = L := congrArg Prod.fst hp'
        have hs' : u.2 = s' := congrArg Prod.snd hp'
        rw [hs'] at q1 q3
        have hv : 0 ≤ u.1 ∧ u.1 ≤ 20 := by
          unfold p_num at hp2
          split at hp2
          · split at hp2
            · cases hp2
            · next c1 c2 =>
              cases hp2
              exact ⟨Int32.not_lt.mp (fun hh => c2 (Or.inl hh)), Int32.not_lt.mp (fun hh => c2 (Or.inr hh))⟩
          · cases hp2
        have hv5 : y.1 (b + 5) (len * 6) = u.1 := by
          have := y5 0 u.1 (by rw [← hL]; rfl)
          exact this
        have y35 : y.1 (b + 3) 5 = Int32.ofNat len := by rw [y3 _ (by omega) (by omega), g3 5 (by omega)]; exact h5
        have y36 : y.1 (b + 3) 6 = Int32.ofNat (c + 1) := by rw [y3 _ (by omega) (by omega)]; exact g36
        have y37 : y.1 (b + 3) 7 = Int32.ofNat d := by rw [y3 _ (by omega) (by omega), g3 7 (by omega)]; exact h7
        have e2' : (2 : Int32) = Int32.ofNat 2 := rfl
        refine sg_X7_readCommand_53 (b + 3) (b + 1) _ _ _ (j_pos (by rw [j_sh0]; exact Int32.le_refl _) (j_pos (by rfl) ?_))
        -- an error behind the bracket
        have bad : ∀ (e : Int32) (p : Nat) (x : ev_S), (∀ y, q_sr S0 y b → q_te y.1 (b + 1) e p → Q (.inl none) y) → q_sr S0 x b → q_te x.1 (b + 1) e p → ∀ S5 : ev_S, S5 = (j_put x (b + 3 + 1) 60 (x.1 (b + 3) 5) (Int32.ofNat (6 + 1))) → ∀ S6 : ev_S, S6 = (ev_up S5 (b + 3) 5 ((S5.1 (b + 3) 5) + 1)) → Q (.inl none) S6 := by
          intro e p x hq x1 x2 S5 e5 S6 e6
          refine hq S6 (by rw [e6, e5]; exact q_sr_up (q_sr_jp x1 (by omega) (by omega)) (by omega) (by omega)) ?_
          unfold q_te
          rw [e6, m_r (by omega), e5, jp_r (by omega)]
          exact x2
        refine sg_X7_openBracket_0 (b + 3) (b + 1) ?_
        rw [y37, e2', n_lt (by omega) (by omega), t_isS y1]
        have signed : ∀ dd : d < 2, ev_Cv g m_X8_expectSign 4 0 [ev_o 8 (b + 1), ev_i 40] y (fun o S1 => o = .inl none ∧ ((S1.1 (b + 1) 7 = 0 → ∀ S2 : ev_S, S2 = (j_put S1 (b + 3 + 5) 2 (S1.1 (b + 3) 7) (S1.1 (b + 3) 5)) → ∀ S3 : ev_S, S3 = (ev_up S2 (b + 3) 7 ((S2.1 (b + 3) 7) + 1)) → ((Sum.inl none : ev_O) = .inl none ∧ ∀ S5 : ev_S, S5 = (j_put S3 (b + 3 + 1) 60 (S3.1 (b + 3) 5) (Int32.ofNat (6 + 1))) → ∀ S6 : ev_S, S6 = (ev_up S5 (b + 3) 5 ((S5.1 (b + 3) 5) + 1)) → Q (.inl none) S6)) ∧ (¬ S1.1 (b + 1) 7 = 0 → ((Sum.inl none : ev_O) = .inl none ∧ ∀ S5 : ev_S, S5 = (j_put S1 (b + 3 + 1) 60 (S1.1 (b + 3) 5) (Int32.ofNat (6 + 1))) → ∀ S6 : ev_S, S6 = (ev_up S5 (b + 3) 5 ((S5.1 (b + 3) 5) + 1)) → Q (.inl none) S6)))) := by
          intro dd
          refine t_expS hn k2 y1 (fun c10 x x1 x2 => ⟨rfl, ?_⟩) (fun c10 x3 x4 x x1 x2 => ⟨rfl, ?_⟩)
          · rw [if_neg c10] at q1
            refine j_neg (by rw [x2.1]; exact x2.2.1) ⟨rfl, bad _ _ x (q1 _ _ rfl) (q_sr_1 y2 x1) x2⟩
          · rw [if_pos c10, if_neg (by omega)] at q3
            refine j_pos x2.2.2.1 (fun S4 e4 S4' e4' => ⟨rfl, fun S5 e5 S6 e6 => ?_⟩)
            have x37 : x.1 (b + 3) 7 = Int32.ofNat d := by rw [x1.2 _ (by omega)]; exact y37
            have x35 : x.1 (b + 3) 5 = Int32.ofNat len := by rw [x1.2 _ (by omega)]; exact y35
            rw [x37, x35, a_put (by omega) (by omega)] at e4
            have w37 : S4.1 (b + 3) 7 = Int32.ofNat d := by rw [e4, m_r (by omega)]; exact x37
            rw [w37, n_inc] at e4'
            have v35 : S4'.1 (b + 3) 5 = Int32.ofNat len := by rw [e4', m_k (by omega), e4, m_r (by omega)]; exact x35
            rw [v35, a_put (by omega) (by omega)] at e5
            have u35 : S5.1 (b + 3) 5 = Int32.ofNat len := by rw [e5, m_r (by omega)]; exact v35
            rw [u35, n_inc] at e6
            have fx : ∀ q, q ≠ b + 1 → q ≠ b + 5 → q ≠ b + 3 → q ≠ b + 4 → q ≠ b + 8 → S6.1 q = z.1 q := fun q h1 h5 h3 h4 h8 => by rw [e6, m_r h3, e5, m_r h4, e4', m_r h3, e4, m_r h8, x1.2 q h1, y3 q h1 h5, f3 q h1 h3]
            have f5 : S6.1 (b + 5) = y.1 (b + 5) := by rw [e6, m_r (by omega), e5, m_r (by omega), e4', m_r (by omega), e4, m_r (by omega), x1.2 _ (by omega)]
            have f4 : S6.1 (b + 4) = upd (z.1 (b + 4)) len (Int32.ofNat (6 + 1)) := by rw [e6, m_r (by omega), e5, m_u, show b + 3 + 1 = b + 4 from rfl, r_s, e4', m_r (by omega), e4, m_r (by omega), x1.2 _ (by omega), y3 _ (by omega) (by omega), f3 _ (by omega) (by omega)]
            have f8 : S6.1 (b + 8) = upd (z.1 (b + 8)) d (Int32.ofNat len) := by rw [e6, m_r (by omega), e5, m_r (by omega), e4', m_r (by omega), e4, m_u, show b + 3 + 5 = b + 8 from rfl, r_s, x1.2 _ (by omega), y3 _ (by omega) (by omega), f3 _ (by omega) (by omega)]
            refine q3 _ _ rfl (by omega) x4 hv.1 hv.2 dd S6 ⟨q_tk_frame x2 (by rw [e6, m_r (by omega), e5, m_r (by omega), e4', m_r (by omega), e4, m_r (by omega)]) (by rw [e6, m_r (by omega), e5, m_r (by omega), e4', m_r (by omega), e4, m_r (by omega)]), by rw [e6, m_s], ?_, ?_⟩ ?_ ⟨fun j hj => ⟨?_, ?_⟩, fun j hj => ?_, fun j hj => ?_⟩ ?_ ?_ ?_ (by omega) hlen
            · rw [e6, m_k (by omega), e5, m_r (by omega), e4', m_k (by omega), e4, m_r (by omega), x1.2 _ (by omega)]; exact y36
            · rw [e6, m_k (by omega), e5, m_r (by omega), e4', m_s]
            · rw [e6, e5, e4', e4]; exact q_sr_up (q_sr_up (q_sr_up (q_sr_up (q_sr_1 y2 x1) (by omega) (by omega)) (by omega) (by omega)) (by omega) (by omega)) (by omega) (by omega)
            · rw [f4, u_k (by omega)]
            · rw [fx _ (by omega) (by omega) (by omega) (by omega) (by omega)]
            · rw [f5, y4 j hj, f3 _ (by omega) (by omega)]
            · rw [f8, u_k (by omega)]
            · rw [f8, u_s]
            · rw [f4, u_s]; rfl
            · rw [f5]; exact hv5
        refine ⟨signed, fun dd => ⟨fun c10 => ?_, fun c10 => ?_⟩⟩
        · rw [if_pos c10, if_pos (by omega)] at q1
          refine t_fail (by decide) y1 (fun x x1 x2 => ⟨rfl, ?_⟩)
          have h7x : ¬ x.1 (b + 1) 7 = 0 := by rw [x2.1]; exact x2.2.1
          exact t_expS_e h7x ⟨rfl, j_neg h7x ⟨rfl, bad _ _ x (q1 _ _ rfl) (q_sr_1 y2 x1) x2⟩⟩
        · rw [if_neg c10] at q1
          refine t_expS hn k2 y1 (fun _ x x1 x2 => ⟨rfl, ?_⟩) (fun c11 => absurd c11 c10)
          exact j_neg (by rw [x2.1]; exact x2.2.1) ⟨rfl, bad _ _ x (q1 _ _ rfl) (q_sr_1 y2 x1) x2⟩
  have e1 : (1 : Int32) = Int32.ofNat 1 := rfl
  have e2c : (2 : Int32) = Int32.ofNat 2 := rfl
  have e3c : (3 : Int32) = Int32.ofNat 3 := rfl
  have e4c : (4 : Int32) = Int32.ofNat 4 := rfl
  have e5c : (5 : Int32) = Int32.ofNat 5 := rfl
  have e6c : (6 : Int32) = Int32.ofNat 6 := rfl
  rw [e1, e2c, e3c, e4c, e5c, e6c, n_eq (by omega) (by omega), n_eq (by omega) (by omega), n_eq (by omega) (by omega), n_eq (by omega) (by omega), n_eq (by omega) (by omega), n_eq (by omega) (by omega)]
  refine ⟨fun h => ?_, fun h1 => ⟨fun h => ?_, fun h2 => ⟨fun h => ?_, fun h3 => ⟨fun h => ?_, fun h4 => ⟨fun h => ?_, fun h5 => ⟨fun h => ?_, fun h6 => ?_⟩⟩⟩⟩⟩⟩
  · have hk : p_kind T n s = 0 := by omega
    rw [hk]; exact sing 0 (by omega) hk
  · have hk : p_kind T n s = 1 := by omega
    rw [hk]; exact sing 1 (by omega) hk
  · have hk : p_kind T n s = 2 := by omega
    rw [hk]; exact sing 2 (by omega) hk
  · have hk : p_kind T n s = 3 := by omega
    rw [hk]; exact sing 3 (by omega) hk
  · have hk : p_kind T n s = 4 := by omega
    rw [hk]; exact sing 4 (by omega) hk
  · have hk : p_kind T n s = 5 := by omega
    rw [hk]; exact sing 5 (by omega) hk
  · have hk : p_kind T n s = 6 := by omega
    rw [hk]; exact rep hk
