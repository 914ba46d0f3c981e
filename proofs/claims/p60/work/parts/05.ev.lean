/-! ===== one world for all methods: values, memory, what a frame is; 'ev_E': from here the method ends as Q says ===== -/
/-- a value: an int; an object (kind, address; kind 100 + n: boolean[n]; 1000 + n: byte[n]); an int row (length, address); long; float bits; double bits; special (0 the script, 1 a literal, 2 its bytes, 3 the formatter, 5 null, 6 7 the digits' rows, else an exception) -/
abbrev ev_V : Type := Int32 ⊕ ((Nat × Nat) ⊕ ((Nat × Nat) ⊕ (Int64 ⊕ (UInt32 ⊕ (UInt64 ⊕ (Nat × Nat))))))
abbrev ev_i (x : Int32) : ev_V := .inl x
abbrev ev_o (k a : Nat) : ev_V := .inr (.inl (k, a))
abbrev ev_y (n a : Nat) : ev_V := .inr (.inr (.inl (n, a)))
abbrev ev_l (x : Int64) : ev_V := .inr (.inr (.inr (.inl x)))
abbrev ev_f (x : UInt32) : ev_V := .inr (.inr (.inr (.inr (.inl x))))
abbrev ev_d (x : UInt64) : ev_V := .inr (.inr (.inr (.inr (.inr (.inl x)))))
abbrev ev_x (t a : Nat) : ev_V := .inr (.inr (.inr (.inr (.inr (.inr (t, a))))))
/-- the trees of things that were made, newest first: kind, address of the first -/
abbrev ev_Y : Type := List (Nat × Nat)
/-- the memory: a row of ints for each address; the trees that were made; references that are not told by a place -/
abbrev ev_S : Type := (Nat → Nat → Int32) × (ev_Y × (Nat → Nat → Option Nat))
/-- how a method ends: with nothing, a value, or an exception by its number -/
abbrev ev_O : Type := Option ev_V ⊕ Nat
/-- what stays through the whole run: first address (a number that is not used); the tables' numbers; array classes of int, boolean, byte, Own, Game, Board; literals' addresses, their bytes' addresses; the formatter; the script; the digits' rows -/
abbrev ev_G : Type := (Nat × (Nat × Nat)) × (va_G × ((ClassId × (ClassId × (ClassId × (ClassId × (ClassId × ClassId))))) × (((Nat → Nat) × (Nat → Nat)) × (Value × (Nat × (Nat × (Nat → Int32)))))))
abbrev ev_b (g : ev_G) : Nat := g.1.1
/-- addresses of the digits' rows -/
abbrev ev_d1 (g : ev_G) : Nat := g.1.2.1
abbrev ev_d2 (g : ev_G) : Nat := g.1.2.2
abbrev ev_D (g : ev_G) : va_G := g.2.1
abbrev ev_cI (g : ev_G) : ClassId := g.2.2.1.1
abbrev ev_cZ (g : ev_G) : ClassId := g.2.2.1.2.1
abbrev ev_cB (g : ev_G) : ClassId := g.2.2.1.2.2.1
abbrev ev_cO (g : ev_G) : ClassId := g.2.2.1.2.2.2.1
abbrev ev_cG (g : ev_G) : ClassId := g.2.2.1.2.2.2.2.1
abbrev ev_cH (g : ev_G) : ClassId := g.2.2.1.2.2.2.2.2
abbrev ev_aK (g : ev_G) : Nat → Nat := g.2.2.2.1.1
abbrev ev_aV (g : ev_G) : Nat → Nat := g.2.2.2.1.2
abbrev ev_fm (g : ev_G) : Value := g.2.2.2.2.1
abbrev ev_sb (g : ev_G) : Nat := g.2.2.2.2.2.1
abbrev ev_sl (g : ev_G) : Nat := g.2.2.2.2.2.2.1
abbrev ev_sx (g : ev_G) : Nat → Int32 := g.2.2.2.2.2.2.2
/-- a method: the class that holds it, its name, bytes, locals, result, its table of handlers -/
abbrev ev_M : Type := String × (MethodName × (ByteArray × (Nat × (Option FieldType × List (Nat × Nat × Nat × Nat)))))
abbrev ev_own (μ : ev_M) : String := μ.1
abbrev ev_mn (μ : ev_M) : MethodName := μ.2.1
abbrev ev_by (μ : ev_M) : ByteArray := μ.2.2.1
abbrev ev_ml (μ : ev_M) : Nat := μ.2.2.2.1
abbrev ev_rt (μ : ev_M) : Option FieldType := μ.2.2.2.2.1
abbrev ev_hh (μ : ev_M) : List (Nat × Nat × Nat × Nat) := μ.2.2.2.2.2
def ev_cx (g : ev_G) (t a : Nat) : Value := match t with
  | 0 => .ref (ev_sb g)
  | 1 => .ref (ev_aK g a)
  | 2 => .ref (ev_aV g a)
  | 3 => ev_fm g
  | 5 => .null
  | 6 => .ref (ev_d1 g)
  | 7 => .ref (ev_d2 g)
  | _ => .ref a
def ev_c (g : ev_G) (v : ev_V) : Value := match v with
  | .inl x => .int x
  | .inr (.inl q) => .ref q.2
  | .inr (.inr (.inl q)) => .ref q.2
  | .inr (.inr (.inr (.inl x))) => .long x
  | .inr (.inr (.inr (.inr (.inl x)))) => .float x
  | .inr (.inr (.inr (.inr (.inr (.inl x))))) => .double x
  | .inr (.inr (.inr (.inr (.inr (.inr q))))) => ev_cx g q.1 q.2
/-- words of the operand stack or the locals -/
def ev_w (v : ev_V) : Nat := match v with
  | .inl _ => 1
  | .inr (.inl _) => 1
  | .inr (.inr (.inl _)) => 1
  | .inr (.inr (.inr (.inl _))) => 2
  | .inr (.inr (.inr (.inr (.inl _)))) => 1
  | .inr (.inr (.inr (.inr (.inr (.inl _))))) => 2
  | .inr (.inr (.inr (.inr (.inr (.inr _))))) => 1
/-- the things that are there: address and kind -/
def ev_af (b : Nat) : List (Nat × (Nat × Nat)) := (List.range 505).map (fun o => (b + o, ev_kd o))
def ev_at1 (q : Nat × Nat) : List (Nat × (Nat × Nat)) := (List.range (ev_tk q.1).length).map (fun o => (q.2 + o, (ev_tk q.1).getD o (99, 0)))
def ev_al (g : ev_G) (Λ : ev_Y) : List (Nat × (Nat × Nat)) := ev_af (ev_b g) ++ Λ.flatMap ev_at1
/-- a thing of the kind lies there -/
def ev_at (g : ev_G) (Λ : ev_Y) (k : Nat × Nat) (a : Nat) : Prop := (a, k) ∈ ev_al g Λ
def ev_ko (k : Nat) : Nat × Nat := if k < 16 then (k, 0) else if k < 100 then (k, if k = 24 then 8 else if k = 25 then 44 else 2) else if k < 1000 then (20, k - 100) else (23, k - 1000)
def ev_ok (g : ev_G) (Λ : ev_Y) (v : ev_V) : Prop := match v with
  | .inl _ => True
  | .inr (.inl q) => ev_at g Λ (ev_ko q.1) q.2
  | .inr (.inr (.inl q)) => ev_at g Λ (19, q.1) q.2
  | .inr (.inr (.inr (.inl _))) => True
  | .inr (.inr (.inr (.inr (.inl _)))) => True
  | .inr (.inr (.inr (.inr (.inr (.inl _))))) => True
  | .inr (.inr (.inr (.inr (.inr (.inr q))))) => (q.1 = 1 ∨ q.1 = 2) → q.2 < 15
/-- the trees lie apart -/
def ev_lw (g : ev_G) (Λ : ev_Y) : Prop := (∀ q ∈ Λ, ev_b g + 505 ≤ q.2) ∧ Λ.Pairwise (fun x y => y.2 + (ev_tk y.1).length ≤ x.2 ∨ x.2 + (ev_tk x.1).length ≤ y.2)
/-- what lies at an address, r its row, ρ its references -/
def ev_en (g : ev_G) (k : Nat × Nat) (r : Nat → Int32) (ρ : Nat → Option Nat) (a : Nat) : va_E :=
  if k.1 < 16 then .inr (k.1, ev_fs k.1 r ρ a)
  else if k.1 = 19 then .inl (ev_cI g, (k.2, .inl r))
  else if k.1 = 20 then .inl (ev_cZ g, (k.2, .inl r))
  else if k.1 = 23 then .inl (ev_cB g, (k.2, .inl r))
  else if k.1 = 24 then .inl (ev_cG g, (k.2, .inr (.inr (.inr (.inr (fun i => some (a + 1 + 41 * i)))))))
  else if k.1 = 26 then .inl (ev_cH g, (k.2, .inr (.inr (.inr (.inr (fun i => some (a + 1 + 7 * i)))))))
  else .inl (ev_cO g, (k.2, .inr (.inr (.inr (.inr ρ)))))
def ev_ent (g : ev_G) (S : ev_S) (q : Nat × (Nat × Nat)) : Nat × va_E := (q.1, ev_en g q.2 (S.1 q.1) (S.2.2 q.1) q.1)
def ev_ws (g : ev_G) (S : ev_S) : va_W := (ev_al g S.2.1).map (ev_ent g S)
def ev_A (g : ev_G) : Nat → Prop := fun q => ev_b g ≤ q
abbrev ev_ty (g : ev_G) : List (ClassId × FieldType) := [(ev_cI g, .int), (ev_cZ g, .boolean), (ev_cB g, .byte), (ev_cO g, .object "MulePostBishopsLaw$Own"), (ev_cG g, .object "MulePostBishops$Game"), (ev_cH g, .object "MulePostBishopsLaw$Board")]
/-- a number is written -/
def ev_up (S : ev_S) (a k : Nat) (x : Int32) : ev_S := (va_up S.1 a (upd (S.1 a) k x), S.2)
/-- a row is written -/
def ev_ur (S : ev_S) (a : Nat) (r : Nat → Int32) : ev_S := (va_up S.1 a r, S.2)
/-- a reference is written -/
def ev_uo (S : ev_S) (a k q : Nat) : ev_S := (S.1, (S.2.1, va_up S.2.2 a (va_up (S.2.2 a) k (some q))))
/-- a tree is made -/
def ev_nt (S : ev_S) (t q : Nat) (R : Nat → Nat → Int32) : ev_S := (fun a => if q ≤ a ∧ a < q + (ev_tk t).length then R (a - q) else S.1 a, ((t, q) :: S.2.1, fun a => if q ≤ a ∧ a < q + (ev_tk t).length then fun _ => none else S.2.2 a))
def ev_wm (μ : ev_M) : List Cond := (if (ev_hh μ).isEmpty then Cond.code (ev_mn μ) (ev_by μ) (ev_ml μ) (ev_rt μ) else Cond.codeWith (ev_mn μ) (ev_by μ) (ev_ml μ) (ev_rt μ) (ev_hh μ)) :: ev_gw
def ev_rm (d B : Nat) : Room := { frames := d + 6, cells := B, slots := 6 * B, locals := 30 * d + 300 }
theorem ev_mem_al {g : ev_G} {Λ : ev_Y} {q : Nat × (Nat × Nat)} : q ∈ ev_al g Λ ↔ (∃ o, o < 505 ∧ q = (ev_b g + o, ev_kd o)) ∨ ∃ x ∈ Λ, ∃ o, o < (ev_tk x.1).length ∧ q = (x.2 + o, (ev_tk x.1).getD o (99, 0)) := by
  unfold ev_al ev_af
  rw [List.mem_append, List.mem_flatMap, List.mem_map]
  constructor
  · rintro (⟨o, ho, rfl⟩ | ⟨x, hx, hq⟩)
    · exact Or.inl ⟨o, List.mem_range.mp ho, rfl⟩
    · unfold ev_at1 at hq
      obtain ⟨o, ho, rfl⟩ := List.mem_map.mp hq
      exact Or.inr ⟨x, hx, o, List.mem_range.mp ho, rfl⟩
  · rintro (⟨o, ho, rfl⟩ | ⟨x, hx, o, ho, rfl⟩)
    · exact Or.inl ⟨o, List.mem_range.mpr ho, rfl⟩
    · refine Or.inr ⟨x, hx, ?_⟩
      unfold ev_at1
      exact List.mem_map.mpr ⟨o, List.mem_range.mpr ho, rfl⟩
theorem ev_nodup_range (b n : Nat) (f : Nat → Nat × Nat) : ((List.range n).map (fun o => (b + o, f o))).Pairwise (fun x y => x.1 ≠ y.1) := by
  rw [List.pairwise_map]
  exact List.Pairwise.imp (fun {a b'} h => by show b + a ≠ b + b'; omega) (List.pairwise_lt_range (n := n))
/-- each address is there once -/
theorem ev_al_nd {g : ev_G} {Λ : ev_Y} (h : ev_lw g Λ) : (ev_al g Λ).Pairwise (fun x y => x.1 ≠ y.1) := by
  unfold ev_al
  rw [List.pairwise_append]
  refine ⟨ev_nodup_range _ _ _, ?_, ?_⟩
  · obtain ⟨-, h2⟩ := h
    induction Λ with
    | nil => exact List.Pairwise.nil
    | cons x xs ih =>
      rw [List.flatMap_cons, List.pairwise_append]
      obtain ⟨h3, h4⟩ := List.pairwise_cons.mp h2
      refine ⟨ev_nodup_range _ _ _, ih h4, ?_⟩
      intro y hy z hz
      unfold ev_at1 at hy
      obtain ⟨o, ho, rfl⟩ := List.mem_map.mp hy
      obtain ⟨x', hx', hz⟩ := List.mem_flatMap.mp hz
      unfold ev_at1 at hz
      obtain ⟨o', ho', rfl⟩ := List.mem_map.mp hz
      have := h3 x' hx'
      have := List.mem_range.mp ho
      have := List.mem_range.mp ho'
      show x.2 + o ≠ x'.2 + o'
      omega
  · intro y hy z hz
    unfold ev_af at hy
    obtain ⟨o, ho, rfl⟩ := List.mem_map.mp hy
    obtain ⟨x', hx', hz⟩ := List.mem_flatMap.mp hz
    unfold ev_at1 at hz
    obtain ⟨o', ho', rfl⟩ := List.mem_map.mp hz
    have := h.1 x' hx'
    have := List.mem_range.mp ho
    show ev_b g + o ≠ x'.2 + o'
    omega
theorem ev_al_A {g : ev_G} {Λ : ev_Y} (h : ev_lw g Λ) {q : Nat × (Nat × Nat)} (hq : q ∈ ev_al g Λ) : ev_b g ≤ q.1 := by
  rcases ev_mem_al.mp hq with ⟨o, ho, rfl⟩ | ⟨x, hx, o, ho, rfl⟩
  · exact Nat.le_add_right _ _
  · have := h.1 x hx
    show ev_b g ≤ x.2 + o
    omega
theorem ev_pw_ne {α : Type} {R : α → α → Prop} {l : List α} (h : l.Pairwise R) {i j : Nat} {x y : α} (hij : i < j) (hi : l[i]? = some x) (hj : l[j]? = some y) : R x y := by
  obtain ⟨h1, rfl⟩ := List.getElem?_eq_some_iff.mp hi
  obtain ⟨h2, rfl⟩ := List.getElem?_eq_some_iff.mp hj
  exact List.pairwise_iff_getElem.mp h i j h1 h2 hij
theorem ev_ws_D {g : ev_G} {S : ev_S} (h : ev_lw g S.2.1) : va_D (ev_A g) (ev_ws g S) := by
  have hnd := ev_al_nd h
  have key : ∀ (i : Nat) (p : Nat × va_E), (ev_ws g S)[i]? = some p → ∃ x, (ev_al g S.2.1)[i]? = some x ∧ p = ev_ent g S x := by
    intro i p hp
    rw [ev_ws, List.getElem?_map] at hp
    cases hx : (ev_al g S.2.1)[i]? with
    | none => rw [hx] at hp; cases hp
    | some x => rw [hx] at hp; exact ⟨x, rfl, (Option.some.inj hp).symm⟩
  constructor
  · intro i j p q hp hq e
    obtain ⟨x, hx, rfl⟩ := key i p hp
    obtain ⟨y, hy, rfl⟩ := key j q hq
    have e : x.1 = y.1 := e
    rcases Nat.lt_trichotomy i j with h1 | h1 | h1
    · exact absurd e (ev_pw_ne hnd h1 hx hy)
    · exact h1
    · exact absurd e.symm (ev_pw_ne hnd h1 hy hx)
  · intro k q hk
    obtain ⟨x, hx, rfl⟩ := key k q hk
    exact ev_al_A h (List.mem_of_getElem? hx)
/-- the thing of a kind, in the world's list -/
theorem ev_get_ws {g : ev_G} {S : ev_S} {k : Nat × Nat} {a : Nat} (h : ev_at g S.2.1 k a) : ∃ q : Nat, (ev_ws g S)[q]? = some (a, ev_en g k (S.1 a) (S.2.2 a) a) := by
  obtain ⟨q, hq⟩ := List.getElem?_of_mem h
  exact ⟨q, by rw [ev_ws, List.getElem?_map, hq]; rfl⟩
/-- a thing is written: only its own row and references change -/
theorem ev_set_gen {g : ev_G} {S S' : ev_S} {a q : Nat} {k : Nat × Nat} (hw : ev_lw g S.2.1) (hq : (ev_ws g S)[q]? = some (a, ev_en g k (S.1 a) (S.2.2 a) a)) (h0 : ev_at g S.2.1 k a) (hΛ : S'.2.1 = S.2.1) (h1 : ∀ c, c ≠ a → S'.1 c = S.1 c) (h2 : ∀ c, c ≠ a → S'.2.2 c = S.2.2 c) : (ev_ws g S).set q (a, ev_en g k (S'.1 a) (S'.2.2 a) a) = ev_ws g S' := by
  have hnd := ev_al_nd hw
  apply List.ext_getElem?
  intro i
  have hx : ∃ x, (ev_al g S.2.1)[q]? = some x ∧ x.1 = a := by
    rw [ev_ws, List.getElem?_map] at hq
    cases hx : (ev_al g S.2.1)[q]? with
    | none => rw [hx] at hq; cases hq
    | some x =>
      rw [hx] at hq
      exact ⟨x, rfl, congrArg Prod.fst (Option.some.inj hq)⟩
  obtain ⟨x, hx, hxa⟩ := hx
  have hxk : x.2 = k := by
    obtain ⟨j, hj⟩ := List.getElem?_of_mem h0
    rcases Nat.lt_trichotomy j q with h1 | h1 | h1
    · exact absurd hxa.symm (ev_pw_ne hnd h1 hj hx)
    · subst h1
      rw [hx] at hj
      rw [Option.some.inj hj]
    · exact absurd hxa (ev_pw_ne hnd h1 hx hj)
  by_cases hi : i = q
  · subst hi
    rw [List.getElem?_set_self (List.getElem?_eq_some_iff.mp hq).1, ev_ws, hΛ, List.getElem?_map, hx]
    show some (a, ev_en g k (S'.1 a) (S'.2.2 a) a) = some (ev_ent g S' x)
    rw [ev_ent, hxa, hxk]
  · rw [List.getElem?_set_ne (Ne.symm hi), ev_ws, ev_ws, hΛ, List.getElem?_map, List.getElem?_map]
    cases hy : (ev_al g S.2.1)[i]? with
    | none => rfl
    | some y =>
      have hya : y.1 ≠ a := by
        intro e
        rcases Nat.lt_trichotomy i q with h3 | h3 | h3
        · exact ev_pw_ne hnd h3 hy hx (by rw [e, hxa])
        · exact hi h3
        · exact ev_pw_ne hnd h3 hx hy (by rw [e, hxa])
      show some (ev_ent g S y) = some (ev_ent g S' y)
      rw [ev_ent, ev_ent, h1 _ hya, h2 _ hya]
theorem ev_set_ws {g : ev_G} {S : ev_S} {a q : Nat} {r : Nat → Int32} {k : Nat × Nat} (hw : ev_lw g S.2.1) (h : ev_at g S.2.1 k a) (hq : (ev_ws g S)[q]? = some (a, ev_en g k (S.1 a) (S.2.2 a) a)) : (ev_ws g S).set q (a, ev_en g k r (S.2.2 a) a) = ev_ws g (ev_ur S a r) := by
  have := ev_set_gen (S' := ev_ur S a r) hw hq h rfl (fun c hc => va_up_ne _ _ hc) (fun c _ => rfl)
  rw [show (ev_ur S a r).1 a = r from va_up_self _ _ _, show (ev_ur S a r).2.2 a = S.2.2 a from rfl] at this
  exact this
theorem ev_at_up {g : ev_G} {Λ Λ' : ev_Y} {k : Nat × Nat} {a : Nat} (h : Λ <:+ Λ') (ha : ev_at g Λ k a) : ev_at g Λ' k a := by
  rcases ev_mem_al.mp ha with h1 | ⟨x, hx, h1⟩
  · exact ev_mem_al.mpr (Or.inl h1)
  · exact ev_mem_al.mpr (Or.inr ⟨x, h.subset hx, h1⟩)
theorem ev_ok_up {g : ev_G} {Λ Λ' : ev_Y} {v : ev_V} (h : Λ <:+ Λ') (hv : ev_ok g Λ v) : ev_ok g Λ' v := by
  rcases v with x | q | q | x | x | x | ⟨t, a⟩
  · exact hv
  · exact ev_at_up h hv
  · exact ev_at_up h hv
  · exact hv
  · exact hv
  · exact hv
  · exact hv
theorem ev_tree {g : ev_G} {Λ : ev_Y} {t q o : Nat} {k : Nat × Nat} (h : (t, q) ∈ Λ) (hk : (ev_tk t)[o]? = some k) : ev_at g Λ k (q + o) := by
  refine ev_mem_al.mpr (Or.inr ⟨(t, q), h, o, (List.getElem?_eq_some_iff.mp hk).1, ?_⟩)
  show (q + o, k) = (q + o, (ev_tk t).getD o (99, 0))
  rw [List.getD_eq_getElem?_getD, hk]
  rfl
