/-! ===== a script: what is read ===== -/
def p_kind (T : Nat → Int32) (n s : Nat) : Nat :=
  if x_w T n s 5 = true then 0 else if x_w T n s 6 = true then 1 else if x_w T n s 7 = true then 2 else if x_w T n s 8 = true then 3 else if x_w T n s 9 = true then 4 else if x_w T n s 10 = true then 5 else if x_w T n s 11 = true then 6 else 7
theorem p_kind_w {T : Nat → Int32} {n s : Nat} (h : p_kind T n s < 7) : ∃ k, x_w T n s k = true := by
  unfold p_kind at h
  by_cases h5 : x_w T n s 5 = true
  · exact ⟨_, h5⟩
  rw [if_neg h5] at h
  by_cases h6 : x_w T n s 6 = true
  · exact ⟨_, h6⟩
  rw [if_neg h6] at h
  by_cases h7 : x_w T n s 7 = true
  · exact ⟨_, h7⟩
  rw [if_neg h7] at h
  by_cases h8 : x_w T n s 8 = true
  · exact ⟨_, h8⟩
  rw [if_neg h8] at h
  by_cases h9 : x_w T n s 9 = true
  · exact ⟨_, h9⟩
  rw [if_neg h9] at h
  by_cases h10 : x_w T n s 10 = true
  · exact ⟨_, h10⟩
  rw [if_neg h10] at h
  by_cases h11 : x_w T n s 11 = true
  · exact ⟨_, h11⟩
  rw [if_neg h11] at h
  omega
theorem p_kind_le {T : Nat → Int32} {n s : Nat} : p_kind T n s ≤ 7 := by
  unfold p_kind
  repeat' split
  all_goals omega
/-- the ranges of a command's numbers -/
def p_rg (k : Nat) : List (Int32 × Int32) := match k with
  | 0 => [(0, 1), (0, 63), (0, 63), (0, 3)]
  | 1 => [(0, 1), (0, 3), (0, 63), (0, 63), (0, 63), (0, 63)]
  | 2 => [(0, 79), (0, 3)]
  | 3 => [(1, 60)]
  | 4 => [(0, 3), (0, 1)]
  | 5 => [(0, 3), (0, 11), (0, 9)]
  | _ => [(0, 20)]
def p_args (T : Nat → Int32) (n : Nat) : List (Int32 × Int32) → Nat → (Int32 × Nat) ⊕ (List Int32 × Nat)
  | [], s => .inr ([], s)
  | q :: R, s => p_bd (p_num T n s q.1 q.2) (fun u => p_bd (p_args T n R u.2) (fun v => .inr (u.1 :: v.1, v.2)))
/-- commands: a single one (its kind, its numbers), or how many times which ones, l brackets deep -/
abbrev A0 : Type := Nat × List Int32
def AT : Nat → Type
  | 0 => A0
  | l + 1 => A0 ⊕ (Nat × List (AT l))
/-- commands in turn, up to the end or a bracket -/
def p_stop (T : Nat → Int32) (n s : Nat) : Bool := decide (x_K T n s = 0) || p_sg T n s 41
def p_lst {α : Type} (T : Nat → Int32) (n : Nat) (one : Nat → Nat → (Int32 × Nat) ⊕ (α × (Nat × Nat))) : Nat → Nat → Nat → (Int32 × Nat) ⊕ (List α × (Nat × Nat))
  | 0, c, s => .inr ([], (c, s))
  | k + 1, c, s => if p_stop T n s = true then .inr ([], (c, s)) else p_bd (one c s) (fun u => p_bd (p_lst T n one k u.2.1 u.2.2) (fun v => .inr (u.1 :: v.1, v.2)))
def p_sing (T : Nat → Int32) (n k s : Nat) : (Int32 × Nat) ⊕ (A0 × Nat) := p_bd (p_args T n (p_rg k) s) (fun u => p_bd (p_sgn T n u.2 59) (fun s' => .inr ((k, u.1), s')))
def p_one (T : Nat → Int32) (n : Nat) : (l : Nat) → Nat → Nat → (Int32 × Nat) ⊕ (AT l × (Nat × Nat))
  | 0 => fun c s =>
    if p_kind T n s = 7 then .inl (1, x_B T n s)
    else if 30 ≤ c then .inl (4, x_B T n s)
    else if p_kind T n s = 6 then p_bd (p_num T n (x_E T n s) 0 20) (fun u => if p_sg T n u.2 40 = true then .inl (4, x_B T n u.2) else .inl (1, x_B T n u.2))
    else p_bd (p_sing T n (p_kind T n s) (x_E T n s)) (fun u => .inr (u.1, (c + 1, u.2)))
  | l + 1 => fun c s =>
    if p_kind T n s = 7 then .inl (1, x_B T n s)
    else if 30 ≤ c then .inl (4, x_B T n s)
    else if p_kind T n s = 6 then p_bd (p_num T n (x_E T n s) 0 20) (fun u => if p_sg T n u.2 40 = true then
        p_bd (p_lst T n (p_one T n l) 801 (c + 1) (x_E T n u.2)) (fun v => p_bd (p_sgn T n v.2.2 41) (fun s2 => p_bd (p_sgn T n s2 59) (fun s3 => .inr (.inr (u.1.toNatClampNeg, v.1), (v.2.1, s3)))))
      else .inl (1, x_B T n u.2))
    else p_bd (p_sing T n (p_kind T n s) (x_E T n s)) (fun u => .inr (.inl u.1, (c + 1, u.2)))
def p_scr (T : Nat → Int32) (n : Nat) : (Int32 × Nat) ⊕ (List (AT 2) × Nat) :=
  p_bd (p_lst T n (p_one T n 2) 801 0 0) (fun v => if x_K T n v.2.2 = 0 then .inr (v.1, v.2.1) else .inl (1, x_B T n v.2.2))
/-! the class: which command, its numbers -/
theorem t_cmdOf {g : ev_G} {S : ev_S} {a n s : Nat} {T : Nat → Int32} (hn : n ≤ 800) (hs : s ≤ n) (h : q_tk S.1 a n T s) : ev_Fn g m_X7_commandOf 6 [ev_o 8 a] S (some (ev_i (if p_kind T n s = 7 then -1 else Int32.ofNat (p_kind T n s + 1)))) S := by
  intro Q hQ
  unfold p_kind at hQ
  refine sg_X7_commandOf_0 a ?_
  refine t_isW hn hs (by omega) h _ ⟨_, rfl, fun c => by rw [if_pos c] at hQ; exact hQ, fun c5 => ?_⟩
  rw [if_neg c5] at hQ
  refine t_isW hn hs (by omega) h _ ⟨_, rfl, fun c => by rw [if_pos c] at hQ; exact hQ, fun c6 => ?_⟩
  rw [if_neg c6] at hQ
  refine t_isW hn hs (by omega) h _ ⟨_, rfl, fun c => by rw [if_pos c] at hQ; exact hQ, fun c7 => ?_⟩
  rw [if_neg c7] at hQ
  refine t_isW hn hs (by omega) h _ ⟨_, rfl, fun c => by rw [if_pos c] at hQ; exact hQ, fun c8 => ?_⟩
  rw [if_neg c8] at hQ
  refine t_isW hn hs (by omega) h _ ⟨_, rfl, fun c => by rw [if_pos c] at hQ; exact hQ, fun c9 => ?_⟩
  rw [if_neg c9] at hQ
  refine t_isW hn hs (by omega) h _ ⟨_, rfl, fun c => by rw [if_pos c] at hQ; exact hQ, fun c10 => ?_⟩
  rw [if_neg c10] at hQ
  refine t_isW hn hs (by omega) h _ ⟨_, rfl, fun c => by rw [if_pos c] at hQ; exact hQ, fun c11 => ?_⟩
  rw [if_neg c11] at hQ
  exact hQ
theorem w_5 {T : Nat → Int32} {n s : Nat} : x_w T n s 32 = x_w T n s 5 := x_w_eq rfl rfl
theorem w_6 {T : Nat → Int32} {n s : Nat} : x_w T n s 33 = x_w T n s 6 := x_w_eq rfl rfl
theorem w_7 {T : Nat → Int32} {n s : Nat} : x_w T n s 34 = x_w T n s 7 := x_w_eq rfl rfl
theorem w_8 {T : Nat → Int32} {n s : Nat} : x_w T n s 35 = x_w T n s 8 := x_w_eq rfl rfl
theorem w_9 {T : Nat → Int32} {n s : Nat} : x_w T n s 36 = x_w T n s 9 := x_w_eq rfl rfl
theorem w_10 {T : Nat → Int32} {n s : Nat} : x_w T n s 31 = x_w T n s 10 := x_w_eq rfl rfl
theorem w_11 {T : Nat → Int32} {n s : Nat} : x_w T n s 37 = x_w T n s 11 := x_w_eq rfl rfl
theorem c_cmdHere {g : ev_G} {S : ev_S} {a n s : Nat} {T : Nat → Int32} (hn : n ≤ 800) (hs : s ≤ n) (h : m_tk S.1 a n T s) : ev_Fn g m_X10_commandHere 6 [ev_o 10 a] S (some (ev_i (if p_kind T n s = 7 then -1 else Int32.ofNat (p_kind T n s)))) S := by
  intro Q hQ
  unfold p_kind at hQ
  refine sg_X10_commandHere_0 a ?_
  refine c_isW hn hs (by omega) h _ ⟨_, rfl, fun c => by rw [w_5] at c; rw [if_pos c] at hQ; exact hQ, fun c5 => ?_⟩
  rw [w_5] at c5
  rw [if_neg c5] at hQ
  refine c_isW hn hs (by omega) h _ ⟨_, rfl, fun c => by rw [w_6] at c; rw [if_pos c] at hQ; exact hQ, fun c6 => ?_⟩
  rw [w_6] at c6
  rw [if_neg c6] at hQ
  refine c_isW hn hs (by omega) h _ ⟨_, rfl, fun c => by rw [w_7] at c; rw [if_pos c] at hQ; exact hQ, fun c7 => ?_⟩
  rw [w_7] at c7
  rw [if_neg c7] at hQ
  refine c_isW hn hs (by omega) h _ ⟨_, rfl, fun c => by rw [w_8] at c; rw [if_pos c] at hQ; exact hQ, fun c8 => ?_⟩
  rw [w_8] at c8
  rw [if_neg c8] at hQ
  refine c_isW hn hs (by omega) h _ ⟨_, rfl, fun c => by rw [w_9] at c; rw [if_pos c] at hQ; exact hQ, fun c9 => ?_⟩
  rw [w_9] at c9
  rw [if_neg c9] at hQ
  refine c_isW hn hs (by omega) h _ ⟨_, rfl, fun c => by rw [w_10] at c; rw [if_pos c] at hQ; exact hQ, fun c10 => ?_⟩
  rw [w_10] at c10
  rw [if_neg c10] at hQ
  refine c_isW hn hs (by omega) h _ ⟨_, rfl, fun c => by rw [w_11] at c; rw [if_pos c] at hQ; exact hQ, fun c11 => ?_⟩
  rw [w_11] at c11
  rw [if_neg c11] at hQ
  exact hQ
