/-! ===== a script: what its commands do, in turn ===== -/
abbrev PX : Type := Bool × ((Nat → Int32) × Nat)
noncomputable def x_0 (c : A0) (r : Nat → Int32) (k : Nat) : PX := if 40 ≤ k then (false, (r, k)) else match o_do c r with
  | some r' => (true, (r', k + 1))
  | none => (false, (r, k))
noncomputable def x_seq {α : Type} (f : α → (Nat → Int32) → Nat → PX) : List α → (Nat → Int32) → Nat → PX
  | [], r, k => (true, (r, k))
  | y :: L, r, k => if (f y r k).1 = true then x_seq f L (f y r k).2.1 (f y r k).2.2 else f y r k
noncomputable def x_rep (f : (Nat → Int32) → Nat → PX) : Nat → (Nat → Int32) → Nat → PX
  | 0, r, k => (true, (r, k))
  | t + 1, r, k => if (f r k).1 = true then x_rep f t (f r k).2.1 (f r k).2.2 else f r k
noncomputable def x_item : (l : Nat) → AT l → (Nat → Int32) → Nat → PX
  | 0 => fun c r k => x_0 c r k
  | l + 1 => fun x r k => match (x : A0 ⊕ (Nat × List (AT l))) with
    | .inl c => x_0 c r k
    | .inr q => x_rep (x_seq (x_item l) q.2) q.1 r k
def at_ok : (l : Nat) → AT l → Prop
  | 0 => fun c => a0_ok c
  | l + 1 => fun x => match (x : A0 ⊕ (Nat × List (AT l))) with
    | .inl c => a0_ok c
    | .inr q => ∀ y, y ∈ q.2 → at_ok l y
theorem x_0_40 {c : A0} {r : Nat → Int32} : (x_0 c r 40).2 = (r, 40) := by
  unfold x_0
  rw [if_pos (Nat.le_refl _)]
theorem x_seq_40 {α : Type} {f : α → (Nat → Int32) → Nat → PX} (hf : ∀ y r, (f y r 40).2 = (r, 40)) : ∀ (L : List α) (r : Nat → Int32), (x_seq f L r 40).2 = (r, 40) := by
  intro L
  induction L with
  | nil => intro r; rfl
  | cons y L ih =>
    intro r
    rw [x_seq]
    by_cases h : (f y r 40).1 = true
    · rw [if_pos h, hf]; exact ih r
    · rw [if_neg h]; exact hf y r
theorem x_rep_40 {f : (Nat → Int32) → Nat → PX} (hf : ∀ r, (f r 40).2 = (r, 40)) : ∀ (t : Nat) (r : Nat → Int32), (x_rep f t r 40).2 = (r, 40) := by
  intro t
  induction t with
  | zero => intro r; rfl
  | succ t ih =>
    intro r
    rw [x_rep]
    by_cases h : (f r 40).1 = true
    · rw [if_pos h, hf]; exact ih r
    · rw [if_neg h]; exact hf r
theorem x_item_40 : ∀ (l : Nat) (x : AT l) (r : Nat → Int32), (x_item l x r 40).2 = (r, 40) := by
  intro l
  induction l with
  | zero => intro x r; exact x_0_40
  | succ l ih =>
    intro x r
    match (x : A0 ⊕ (Nat × List (AT l))) with
    | .inl c => exact x_0_40
    | .inr q => exact x_rep_40 (fun r => x_seq_40 ih q.2 r) q.1 r
theorem x_0_le {c : A0} {r : Nat → Int32} {k : Nat} (hk : k ≤ 40) : (x_0 c r k).2.2 ≤ 40 := by
  unfold x_0
  by_cases h : 40 ≤ k
  · rw [if_pos h]; exact hk
  · rw [if_neg h]
    cases o_do c r with
    | some r' => show k + 1 ≤ 40; omega
    | none => exact hk
theorem x_seq_le {α : Type} {f : α → (Nat → Int32) → Nat → PX} (hf : ∀ y r k, k ≤ 40 → (f y r k).2.2 ≤ 40) : ∀ (L : List α) (r : Nat → Int32) (k : Nat), k ≤ 40 → (x_seq f L r k).2.2 ≤ 40 := by
  intro L
  induction L with
  | nil => intro r k h; exact h
  | cons y L ih =>
    intro r k hk
    rw [x_seq]
    by_cases h : (f y r k).1 = true
    · rw [if_pos h]; exact ih _ _ (hf y r k hk)
    · rw [if_neg h]; exact hf y r k hk
theorem x_rep_le {f : (Nat → Int32) → Nat → PX} (hf : ∀ r k, k ≤ 40 → (f r k).2.2 ≤ 40) : ∀ (t : Nat) (r : Nat → Int32) (k : Nat), k ≤ 40 → (x_rep f t r k).2.2 ≤ 40 := by
  intro t
  induction t with
  | zero => intro r k h; exact h
  | succ t ih =>
    intro r k hk
    rw [x_rep]
    by_cases h : (f r k).1 = true
    · rw [if_pos h]; exact ih _ _ (hf r k hk)
    · rw [if_neg h]; exact hf r k hk
theorem x_item_le : ∀ (l : Nat) (x : AT l) (r : Nat → Int32) (k : Nat), k ≤ 40 → (x_item l x r k).2.2 ≤ 40 := by
  intro l
  induction l with
  | zero => intro x r k h; exact x_0_le h
  | succ l ih =>
    intro x r k h
    match (x : A0 ⊕ (Nat × List (AT l))) with
    | .inl c => exact x_0_le h
    | .inr q => exact x_rep_le (fun r k h => x_seq_le ih q.2 r k h) q.1 r k h
/-! what is read is within its ranges -/
theorem p_num_rg {T : Nat → Int32} {n s s' : Nat} {lo hi v : Int32} (h : p_num T n s lo hi = .inr (v, s')) : lo ≤ v ∧ v ≤ hi := by
  unfold p_num at h
  by_cases h1 : x_K T n s = 2
  · rw [if_pos h1] at h
    by_cases h2 : x_V T n s < lo ∨ hi < x_V T n s
    · rw [if_pos h2] at h; cases h
    · rw [if_neg h2] at h
      cases h
      exact ⟨Int32.not_lt.mp (fun h => h2 (Or.inl h)), Int32.not_lt.mp (fun h => h2 (Or.inr h))⟩
  · rw [if_neg h1] at h; cases h
theorem p_bd_ok {α β : Type} {x : (Int32 × Nat) ⊕ α} {f : α → (Int32 × Nat) ⊕ β} {w : β} (h : p_bd x f = .inr w) : ∃ v, x = .inr v ∧ f v = .inr w := by
  cases x with
  | inl e => cases h
  | inr v => exact ⟨v, rfl, h⟩
theorem p_args_rg {T : Nat → Int32} {n : Nat} : ∀ (R : List (Int32 × Int32)) (s : Nat) (L : List Int32) (s' : Nat), p_args T n R s = .inr (L, s') → ∀ w q, R[w]? = some q → q.1 ≤ L.getD w 0 ∧ L.getD w 0 ≤ q.2 := by
  intro R
  induction R with
  | nil => intro s L s' _ w q hq; simp at hq
  | cons p R ih =>
    intro s L s' h w q hq
    rw [p_args] at h
    obtain ⟨u, h1, h2⟩ := p_bd_ok h
    obtain ⟨v, h3, h4⟩ := p_bd_ok h2
    obtain ⟨u1, u2⟩ := u
    obtain ⟨v1, v2⟩ := v
    cases h4
    cases w with
    | zero =>
      simp at hq
      subst hq
      exact p_num_rg h1
    | succ w =>
      simp at hq
      have := ih _ _ _ h3 w q hq
      simpa using this
theorem p_sing_ok {T : Nat → Int32} {n k s : Nat} {c : A0} {s' : Nat} (hk : k ≤ 5) (h : p_sing T n k s = .inr (c, s')) : a0_ok c := by
  unfold p_sing at h
  obtain ⟨u, h1, h2⟩ := p_bd_ok h
  obtain ⟨v, h3, h4⟩ := p_bd_ok h2
  obtain ⟨u1, u2⟩ := u
  cases h4
  exact ⟨hk, p_args_len _ _ _ _ h1, fun w q hq => p_args_rg _ _ _ _ h1 w q hq⟩
theorem p_rc_ok {T : Nat → Int32} {n d c s : Nat} {c0 : A0} {s' : Nat} (h : p_rc T n d c s = .inr (.inl c0, s')) : a0_ok c0 := by
  have hk := p_kind_le (T := T) (n := n) (s := s)
  unfold p_rc at h
  by_cases h7 : p_kind T n s = 7
  · rw [if_pos h7] at h; cases h
  rw [if_neg h7] at h
  by_cases hc : 30 ≤ c
  · rw [if_pos hc] at h; cases h
  rw [if_neg hc] at h
  by_cases h6 : p_kind T n s = 6
  · rw [if_pos h6] at h
    obtain ⟨u, h1, h2⟩ := p_bd_ok h
    by_cases h8 : p_sg T n u.2 40 = true
    · rw [if_pos h8] at h2
      by_cases hd : 2 ≤ d
      · rw [if_pos hd] at h2; cases h2
      · rw [if_neg hd] at h2; cases h2
    · rw [if_neg h8] at h2; cases h2
  · rw [if_neg h6] at h
    obtain ⟨u, h1, h2⟩ := p_bd_ok h
    cases h2
    exact p_sing_ok (by omega) h1
theorem p_lst_ok {α : Type} {T : Nat → Int32} {n : Nat} {one : Nat → Nat → (Int32 × Nat) ⊕ (α × (Nat × Nat))} {P : α → Prop} (h1 : ∀ c s x v, one c s = .inr (x, v) → P x) : ∀ (k c s : Nat) (L : List α) (v : Nat × Nat), p_lst T n one k c s = .inr (L, v) → ∀ y, y ∈ L → P y := by
  intro k
  induction k with
  | zero => intro c s L v h y hy; rw [p_lst] at h; cases h; simp at hy
  | succ k ih =>
    intro c s L v h y hy
    rw [p_lst] at h
    by_cases hs : p_stop T n s = true
    · rw [if_pos hs] at h; cases h; simp at hy
    · rw [if_neg hs] at h
      obtain ⟨u, g1, g2⟩ := p_bd_ok h
      obtain ⟨w, g3, g4⟩ := p_bd_ok g2
      obtain ⟨u1, u2⟩ := u
      obtain ⟨w1, w2⟩ := w
      cases g4
      rcases List.mem_cons.mp hy with rfl | hy
      · exact h1 _ _ _ _ g1
      · exact ih _ _ _ _ g3 y hy
theorem p_one_ok {T : Nat → Int32} {n : Nat} : ∀ (l : Nat), l ≤ 2 → ∀ (c s : Nat) (x : AT l) (v : Nat × Nat), p_one T n l c s = .inr (x, v) → at_ok l x := by
  intro l
  induction l with
  | zero =>
    intro _ c s x v h
    rw [p_one_0] at h
    obtain ⟨u, h1, h2⟩ := p_bd_ok h
    obtain ⟨u1, u2⟩ := u
    cases u1 with
    | inl c0 => cases h2; exact p_rc_ok h1
    | inr v => cases h2
  | succ l ih =>
    intro hl c s x v h
    rw [p_one_s (d := 1 - l) (by omega)] at h
    obtain ⟨u, h1, h2⟩ := p_bd_ok h
    obtain ⟨u1, u2⟩ := u
    cases u1 with
    | inl c0 => cases h2; exact p_rc_ok h1
    | inr v =>
      simp only [p_fins] at h2
      obtain ⟨w, g1, g2⟩ := p_bd_ok h2
      obtain ⟨s2, g3, g4⟩ := p_bd_ok g2
      obtain ⟨s3, g5, g6⟩ := p_bd_ok g4
      obtain ⟨w1, w2⟩ := w
      cases g6
      exact p_lst_ok (ih (by omega)) _ _ _ _ _ g1
theorem p_scr_ok {T : Nat → Int32} {n : Nat} {L : List (AT 2)} {c : Nat} (h : p_scr T n = .inr (L, c)) : ∀ y, y ∈ L → at_ok 2 y := by
  unfold p_scr at h
  obtain ⟨u, h1, h2⟩ := p_bd_ok h
  obtain ⟨u1, u2⟩ := u
  by_cases hk : x_K T n u2.2 = 0
  · rw [if_pos hk] at h2
    cases h2
    exact p_lst_ok (p_one_ok 2 (Nat.le_refl _)) _ _ _ _ _ h1
  · rw [if_neg hk] at h2; cases h2
