/-! ===== one world for all methods: values, memory, what a frame is; 'ev_E': from here the method ends as Q says ===== -/
/-- a value: an int; an object (kind, address); an int row (length, address); long; float bits; double bits; special (0 the script, 1 a literal, 2 its bytes, 3 the formatter, else an exception) -/
abbrev ev_V : Type := Int32 ⊕ ((Nat × Nat) ⊕ ((Nat × Nat) ⊕ (Int64 ⊕ (UInt32 ⊕ (UInt64 ⊕ (Nat × Nat))))))
abbrev ev_i (x : Int32) : ev_V := .inl x
abbrev ev_o (k a : Nat) : ev_V := .inr (.inl (k, a))
abbrev ev_y (n a : Nat) : ev_V := .inr (.inr (.inl (n, a)))
abbrev ev_l (x : Int64) : ev_V := .inr (.inr (.inr (.inl x)))
abbrev ev_f (x : UInt32) : ev_V := .inr (.inr (.inr (.inr (.inl x))))
abbrev ev_d (x : UInt64) : ev_V := .inr (.inr (.inr (.inr (.inr (.inl x)))))
abbrev ev_x (t a : Nat) : ev_V := .inr (.inr (.inr (.inr (.inr (.inr (t, a))))))
/-- the memory: a row of ints for each address; the law's long and its double -/
abbrev ev_S : Type := (Nat → Nat → Int32) × (Int64 × UInt64)
/-- how a method ends: with nothing, a value, or an exception by its number -/
abbrev ev_O : Type := Option ev_V ⊕ Nat
/-- what stays through the whole run: first address and number of objects; the tables' numbers; array classes of int, boolean, long, double, Game; literals' addresses, their bytes' addresses; the formatter; the script -/
abbrev ev_G : Type := (Nat × Nat) × (va_G × ((ClassId × (ClassId × (ClassId × (ClassId × ClassId)))) × (((Nat → Nat) × (Nat → Nat)) × (Value × (Nat × (Nat × (Nat → Int32)))))))
abbrev ev_b (g : ev_G) : Nat := g.1.1
abbrev ev_n (g : ev_G) : Nat := g.1.2
abbrev ev_D (g : ev_G) : va_G := g.2.1
abbrev ev_cI (g : ev_G) : ClassId := g.2.2.1.1
abbrev ev_cZ (g : ev_G) : ClassId := g.2.2.1.2.1
abbrev ev_cJ (g : ev_G) : ClassId := g.2.2.1.2.2.1
abbrev ev_cD (g : ev_G) : ClassId := g.2.2.1.2.2.2.1
abbrev ev_cG (g : ev_G) : ClassId := g.2.2.1.2.2.2.2
abbrev ev_aK (g : ev_G) : Nat → Nat := g.2.2.2.1.1
abbrev ev_aV (g : ev_G) : Nat → Nat := g.2.2.2.1.2
abbrev ev_fm (g : ev_G) : Value := g.2.2.2.2.1
abbrev ev_sb (g : ev_G) : Nat := g.2.2.2.2.2.1
abbrev ev_sl (g : ev_G) : Nat := g.2.2.2.2.2.2.1
abbrev ev_sx (g : ev_G) : Nat → Int32 := g.2.2.2.2.2.2.2
/-- a method: the class that holds it, its name, bytes, locals, result, its table of handlers -/
abbrev ev_M : Type := String × (MethodName × (ByteArray × (Nat × (Option FieldType × List (Nat × Nat × Nat × Nat)))))
abbrev ev_own (μ : ev_M) : String := μ.1
abbrev ev_mn (μ : ev_M) : MethodName := μ.2.1
abbrev ev_by (μ : ev_M) : ByteArray := μ.2.2.1
abbrev ev_ml (μ : ev_M) : Nat := μ.2.2.2.1
abbrev ev_rt (μ : ev_M) : Option FieldType := μ.2.2.2.2.1
abbrev ev_hh (μ : ev_M) : List (Nat × Nat × Nat × Nat) := μ.2.2.2.2.2
def ev_cx (g : ev_G) (t a : Nat) : Value := match t with
  | 0 => .ref (ev_sb g)
  | 1 => .ref (ev_aK g a)
  | 2 => .ref (ev_aV g a)
  | 3 => ev_fm g
  | _ => .ref a
def ev_c (g : ev_G) (v : ev_V) : Value := match v with
  | .inl x => .int x
  | .inr (.inl q) => .ref q.2
  | .inr (.inr (.inl q)) => .ref q.2
  | .inr (.inr (.inr (.inl x))) => .long x
  | .inr (.inr (.inr (.inr (.inl x)))) => .float x
  | .inr (.inr (.inr (.inr (.inr (.inl x))))) => .double x
  | .inr (.inr (.inr (.inr (.inr (.inr q))))) => ev_cx g q.1 q.2
/-- words of the operand stack or the locals -/
def ev_w (v : ev_V) : Nat := match v with
  | .inl _ => 1
  | .inr (.inl _) => 1
  | .inr (.inr (.inl _)) => 1
  | .inr (.inr (.inr (.inl _))) => 2
  | .inr (.inr (.inr (.inr (.inl _)))) => 1
  | .inr (.inr (.inr (.inr (.inr (.inl _))))) => 2
  | .inr (.inr (.inr (.inr (.inr (.inr _))))) => 1
/-- a thing of the kind lies there -/
def ev_at (g : ev_G) (k : Nat × Nat) (a : Nat) : Prop := (ev_n g = 505 ∨ ev_n g = 516 ∨ ev_n g = 518) ∧ ∃ o : Nat, a = ev_b g + o ∧ o < ev_n g ∧ o < 518 ∧ ev_kd o = k
def ev_ok (g : ev_G) (v : ev_V) : Prop := match v with
  | .inl _ => True
  | .inr (.inl q) => ev_at g (q.1, if q.1 < 12 then 0 else if q.1 = 24 then 8 else if q.1 = 20 then 2 else 1) q.2
  | .inr (.inr (.inl q)) => ev_at g (19, q.1) q.2
  | .inr (.inr (.inr (.inl _))) => True
  | .inr (.inr (.inr (.inr (.inl _)))) => True
  | .inr (.inr (.inr (.inr (.inr (.inl _))))) => True
  | .inr (.inr (.inr (.inr (.inr (.inr q))))) => (q.1 = 1 ∨ q.1 = 2) → q.2 < 38
/-- what lies at an address, M its row -/
def ev_en (g : ev_G) (k : Nat × Nat) (r : Nat → Int32) (w : Int64 × UInt64) (a : Nat) : va_E :=
  if k.1 < 12 then .inr (k.1, ev_fs k.1 r a)
  else if k.1 = 19 then .inl (ev_cI g, (k.2, .inl r))
  else if k.1 = 20 then .inl (ev_cZ g, (k.2, .inl r))
  else if k.1 = 21 then .inl (ev_cJ g, (k.2, .inr (.inl (fun _ => w.1))))
  else if k.1 = 22 then .inl (ev_cD g, (k.2, .inr (.inr (.inr (.inl (fun _ => w.2))))))
  else .inl (ev_cG g, (k.2, .inr (.inr (.inr (.inr (fun i => some (a + 1 + 41 * i)))))))
def ev_ent (g : ev_G) (S : ev_S) (a : Nat) : va_E := ev_en g (ev_kd (a - ev_b g)) (S.1 a) S.2 a
def ev_al (g : ev_G) : List Nat := (List.range (ev_n g)).map (fun o => ev_b g + o)
def ev_ws (g : ev_G) (S : ev_S) : va_W := va_pl (ev_al g) (ev_ent g S)
def ev_A (g : ev_G) : Nat → Prop := fun q => ev_b g ≤ q
abbrev ev_ty (g : ev_G) : List (ClassId × FieldType) := [(ev_cI g, .int), (ev_cZ g, .boolean), (ev_cJ g, .long), (ev_cD g, .double), (ev_cG g, .object "MulePostBishops$Game")]
/-- a number is written -/
def ev_up (S : ev_S) (a k : Nat) (x : Int32) : ev_S := (va_up S.1 a (upd (S.1 a) k x), S.2)
/-- a row is written -/
def ev_ur (S : ev_S) (a : Nat) (r : Nat → Int32) : ev_S := (va_up S.1 a r, S.2)
/-- the good words of the tables -/
def ev_gw : List Cond := lw_tbl.filter goodWord
theorem ev_gi {w : Cond} (h : w ∈ lw_tbl) (hg : goodWord w = true) : w ∈ ev_gw := List.mem_filter.mpr ⟨h, hg⟩
def ev_wm (μ : ev_M) : List Cond := (if (ev_hh μ).isEmpty then Cond.code (ev_mn μ) (ev_by μ) (ev_ml μ) (ev_rt μ) else Cond.codeWith (ev_mn μ) (ev_by μ) (ev_ml μ) (ev_rt μ) (ev_hh μ)) :: ev_gw
def ev_rm (d B : Nat) : Room := { frames := d + 8, cells := B, slots := 6 * B, locals := 60 * d + 200 }
theorem ev_al_mem {g : ev_G} {a : Nat} : a ∈ ev_al g ↔ ∃ o : Nat, a = ev_b g + o ∧ o < ev_n g := by
  simp only [ev_al, List.mem_map, List.mem_range]
  constructor
  · rintro ⟨o, h1, h2⟩; exact ⟨o, h2.symm, h1⟩
  · rintro ⟨o, h1, h2⟩; exact ⟨o, h2, h1.symm⟩
theorem ev_ws_D (g : ev_G) (S : ev_S) : va_D (ev_A g) (ev_ws g S) := by
  constructor
  · intro i j p q hp hq e
    simp only [ev_ws, va_pl, ev_al, List.getElem?_map] at hp hq
    cases hi : (List.range (ev_n g))[i]? with
    | none => rw [hi] at hp; cases hp
    | some x =>
      cases hj : (List.range (ev_n g))[j]? with
      | none => rw [hj] at hq; cases hq
      | some y =>
        rw [hi] at hp; rw [hj] at hq
        cases hp; cases hq
        have h1 := List.getElem?_eq_some_iff.mp hi
        have h2 := List.getElem?_eq_some_iff.mp hj
        obtain ⟨_, h1⟩ := h1
        obtain ⟨_, h2⟩ := h2
        simp at h1 h2
        simp at e
        omega
  · intro k q hk
    have := List.mem_of_getElem? hk
    simp only [ev_ws, va_pl, List.mem_map] at this
    obtain ⟨a, ha, rfl⟩ := this
    obtain ⟨o, rfl, _⟩ := ev_al_mem.mp ha
    exact Nat.le_add_right _ _
/-- the thing of a kind, in the world's list -/
theorem ev_get_ws {g : ev_G} {S : ev_S} {k : Nat × Nat} {a : Nat} (h : ev_at g k a) : ∃ q : Nat, (ev_ws g S)[q]? = some (a, ev_en g k (S.1 a) S.2 a) := by
  obtain ⟨-, o, rfl, h1, _, h2⟩ := h
  obtain ⟨q, hq⟩ := va_pl_get (X := []) (f := ev_ent g S) (ev_al_mem.mpr ⟨o, rfl, h1⟩)
  refine ⟨q, ?_⟩
  rw [List.nil_append] at hq
  rw [ev_ws, hq, ev_ent, Nat.add_sub_cancel_left, h2]
theorem ev_set_ws {g : ev_G} {S : ev_S} {a q : Nat} {r : Nat → Int32} {k : Nat × Nat} (h : ev_at g k a) (hq : (ev_ws g S)[q]? = some (a, ev_en g k (S.1 a) S.2 a)) : (ev_ws g S).set q (a, ev_en g k r S.2 a) = ev_ws g (ev_ur S a r) := by
  obtain ⟨-, o, rfl, h1, _, h2⟩ := h
  have hm := ev_al_mem.mpr ⟨o, rfl, h1⟩
  have e1 : ev_ent g S (ev_b g + o) = ev_en g k (S.1 (ev_b g + o)) S.2 (ev_b g + o) := by rw [ev_ent, Nat.add_sub_cancel_left, h2]
  have hD := ev_ws_D g S
  have := va_pl_set (X := []) (f := ev_ent g S) (e := ev_en g k r S.2 (ev_b g + o)) (by rw [List.nil_append]; exact hD) hm (by rw [List.nil_append, e1]; exact hq)
  rw [List.nil_append, List.nil_append] at this
  rw [ev_ws, this, ev_ws]
  simp only [va_pl]
  apply List.map_congr_left
  intro b hb
  by_cases hba : b = ev_b g + o
  · subst hba
    rw [va_up_self, ev_ent, ev_ur, Nat.add_sub_cancel_left, h2]
    simp only [va_up_self]
  · rw [va_up_ne _ _ hba, ev_ent, ev_ent, ev_ur]
    simp only [va_up_ne _ _ hba]
