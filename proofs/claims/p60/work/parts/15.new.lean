/-! ===== rows of p60: nest mates' fields, rows of objects, things that are made ===== -/
def a_bd (a : Nat) (i : Int32) : Nat := a + 1 + 7 * i.toNatClampNeg
theorem ev_P_iff {g : ev_G} {S : ev_S} {H : Heap} : va_P (ev_D g) ev_cl (ev_ws g S) H ↔ ∀ x ∈ ev_al g S.2.1, va_at (ev_D g) ev_cl (ev_ent g S x) H := by
  constructor
  · intro h x hx
    obtain ⟨i, hi⟩ := List.getElem?_of_mem hx
    exact h i _ (by rw [ev_ws, List.getElem?_map, hi]; rfl)
  · intro h i q hq
    obtain ⟨x, hx, rfl⟩ := List.mem_map.mp (List.mem_of_getElem? hq)
    exact h x hx
theorem ev_nt_old {g : ev_G} {S : ev_S} {t q : Nat} {R : Nat → Nat → Int32} {x : Nat × (Nat × Nat)} (h : x.1 < q ∨ q + (ev_tk t).length ≤ x.1) : ev_ent g (ev_nt S t q R) x = ev_ent g S x := by
  have hn : ¬ (q ≤ x.1 ∧ x.1 < q + (ev_tk t).length) := by omega
  rw [ev_ent, ev_ent]
  show (x.1, ev_en g x.2 (if q ≤ x.1 ∧ x.1 < q + (ev_tk t).length then R (x.1 - q) else S.1 x.1) ((if q ≤ x.1 ∧ x.1 < q + (ev_tk t).length then fun _ => none else S.2.2 x.1)) x.1) = _
  rw [if_neg hn, if_neg hn]
/-- a tree is made: the world -/
theorem ev_nt_P {g : ev_G} {S : ev_S} {H1 : Heap} {t q : Nat} {R : Nat → Nat → Int32} (hw : ev_lw g S.2.1) (hb : ev_b g + 505 ≤ q) (hd : ∀ y ∈ S.2.1, y.2 + (ev_tk y.1).length ≤ q ∨ q + (ev_tk t).length ≤ y.2)
    (hP : va_P (ev_D g) ev_cl (ev_ws g S) H1) (hn : ∀ o k, (ev_tk t)[o]? = some k → va_at (ev_D g) ev_cl (q + o, ev_en g k (R o) (fun _ => none) (q + o)) H1) : ev_lw g ((t, q) :: S.2.1) ∧ va_P (ev_D g) ev_cl (ev_ws g (ev_nt S t q R)) H1 := by
  refine ⟨⟨List.forall_mem_cons.mpr ⟨hb, hw.1⟩, List.pairwise_cons.mpr ⟨fun y hy => hd y hy, hw.2⟩⟩, ev_P_iff.mpr ?_⟩
  intro x hx
  have hx : x ∈ ev_al g ((t, q) :: S.2.1) := hx
  have hP := ev_P_iff.mp hP
  rcases ev_mem_al.mp hx with ⟨o, ho, rfl⟩ | ⟨y, hy, o, ho, rfl⟩
  · rw [ev_nt_old (Or.inl (by show ev_b g + o < q; omega))]
    exact hP _ (ev_mem_al.mpr (Or.inl ⟨o, ho, rfl⟩))
  · rcases List.mem_cons.mp hy with rfl | hy
    · have ho : o < (ev_tk t).length := ho
      have h1 := hn o _ (List.getElem?_eq_getElem ho)
      have e : (ev_tk t).getD o (99, 0) = (ev_tk t)[o] := by rw [List.getD_eq_getElem?_getD, List.getElem?_eq_getElem ho]; rfl
      rw [ev_ent]
      show va_at (ev_D g) ev_cl (q + o, ev_en g ((ev_tk t).getD o (99, 0)) (if q ≤ q + o ∧ q + o < q + (ev_tk t).length then R (q + o - q) else S.1 (q + o)) ((if q ≤ q + o ∧ q + o < q + (ev_tk t).length then fun _ => none else S.2.2 (q + o))) (q + o)) H1
      rw [e, if_pos ⟨Nat.le_add_right _ _, by omega⟩, if_pos ⟨Nat.le_add_right _ _, by omega⟩, Nat.add_sub_cancel_left]
      exact h1
    · have := hd y hy
      rw [ev_nt_old (by show y.2 + o < q ∨ q + (ev_tk t).length ≤ y.2 + o; omega)]
      exact hP _ (ev_mem_al.mpr (Or.inr ⟨y, hy, o, ho, rfl⟩))
/-- one thing is made -/
theorem ev_nt1 {g : ev_G} {S : ev_S} {H1 : Heap} {t q : Nat} {k : Nat × Nat} {R : Nat → Nat → Int32} {e : va_E} (hk : ev_tk t = [k]) (hw : ev_lw g S.2.1) (he : e = ev_en g k (R 0) (fun _ => none) q)
    (hP : va_P (ev_D g) ev_cl (ev_ws g S ++ [(q, e)]) H1) (hD : va_D (ev_A g) (ev_ws g S ++ [(q, e)])) : ev_lw g ((t, q) :: S.2.1) ∧ va_P (ev_D g) ev_cl (ev_ws g (ev_nt S t q R)) H1 := by
  have hlast : (ev_ws g S ++ [(q, e)])[(ev_ws g S).length]? = some (q, e) := by rw [List.getElem?_append_right (Nat.le_refl _), Nat.sub_self]; rfl
  have hne : ∀ x ∈ ev_al g S.2.1, x.1 ≠ q := by
    intro x hx h9
    obtain ⟨i, hi⟩ := List.getElem?_of_mem hx
    have h1 : (ev_ws g S)[i]? = some (ev_ent g S x) := by rw [ev_ws, List.getElem?_map, hi]; rfl
    have hl := (List.getElem?_eq_some_iff.mp h1).1
    have h2 : (ev_ws g S ++ [(q, e)])[i]? = some (ev_ent g S x) := by rw [List.getElem?_append_left hl]; exact h1
    have := hD.1 i _ _ _ h2 hlast h9
    omega
  have hA : ev_b g ≤ q := hD.2 _ _ hlast
  refine ev_nt_P hw ?_ ?_ ?_ ?_
  · by_cases h : ev_b g + 505 ≤ q
    · exact h
    · exact (hne (ev_b g + (q - ev_b g), ev_kd (q - ev_b g)) (ev_mem_al.mpr (Or.inl ⟨q - ev_b g, by omega, rfl⟩)) (by show ev_b g + (q - ev_b g) = q; omega)).elim
  · intro y hy
    rw [hk]
    show y.2 + (ev_tk y.1).length ≤ q ∨ q + 1 ≤ y.2
    by_cases h1 : q + 1 ≤ y.2
    · exact Or.inr h1
    · by_cases h2 : y.2 + (ev_tk y.1).length ≤ q
      · exact Or.inl h2
      · exact (hne (y.2 + (q - y.2), (ev_tk y.1).getD (q - y.2) (99, 0)) (ev_mem_al.mpr (Or.inr ⟨y, hy, q - y.2, by omega, rfl⟩)) (by show y.2 + (q - y.2) = q; omega)).elim
  · intro i z hz
    exact hP i z (by rw [List.getElem?_append_left (List.getElem?_eq_some_iff.mp hz).1]; exact hz)
  · intro o k' ho
    rw [hk] at ho
    have h0 : o = 0 := by
      have := (List.getElem?_eq_some_iff.mp ho).1
      have : o < 1 := this
      omega
    subst h0
    have hkk : k = k' := by simpa using ho
    subst hkk
    have := hP _ _ hlast
    rw [he] at this
    exact this
section EvNew
variable {g : ev_G} {μ : ev_M} {d B pc : Nat} {L : List (Option ev_V)} {K : List ev_V} {S : ev_S} {Q : ev_O → ev_S → Prop}
/-- the world with a tree more -/
theorem ev_X.grow {l : Launch} {p : Program} {R : Room} {s : State} {m : MethodId} {args : Array Value} {meth : Method} {c : Code} {H H1 : Heap} {locs locs1 : List Loc} {cells slots mc ms : Nat} {Λ : ev_Y} (X : ev_X g μ d B S l p R s m args meth c H locs cells slots mc ms Λ) {t q c' n c9 : Nat} {R9 : Nat → Nat → Int32} (hw : ev_lw g ((t, q) :: S.2.1)) (hP : va_P (ev_D g) ev_cl (ev_ws g (ev_nt S t q R9)) H1) (hS : va_S (ev_A g) s.heap H1 locs1) (hc : c9 ≤ B) (h1 : c' ≤ c9) (h2 : n ≤ 6 * c9) : ev_X g μ d (B - c9) (ev_nt S t q R9) l p R s m args meth c H1 locs1 (cells + c') (slots + n) mc ms Λ := by
  have X4 := X.rm
  have X5 := X.sx
  exact ⟨X.1, X.2.1, ⟨X4.1, X4.2.1, X4.2.2.1, X4.2.2.2.1, by omega, by omega, X5.trans (List.suffix_cons _ _), hw, X.nm⟩, hP, hS⟩
theorem ev_X.fe {l : Launch} {p : Program} {R : Room} {s : State} {m : MethodId} {args : Array Value} {meth : Method} {c : Code} {H : Heap} {locs : List Loc} {cells slots mc ms : Nat} {Λ : ev_Y} (X : ev_X g μ d B S l p R s m args meth c H locs cells slots mc ms Λ) {o r n e h : String} {i : Nat} (hl : (o, (i, (r, (n, (e, h))))) ∈ ev_fe) : (Cond.fieldLinkNest o i r n e h).before args s = true :=
  va_Nw.use rfl (X.2.1.2.2.1.1.2.2.2.2.1 _ hl)
theorem ev_getN (ci k index : Nat) {C host : String} {T : u_T} {N a : Nat} (v : ev_V) (h : decode (ev_by μ) pc = .ok (.getfield index, 3)) (hcl : ev_cl[ci]? = some (C, T, N)) (hci : ci < 16) (hin : ∀ w ∈ u_ws C T N, w ∈ ev_gw) (hk : k < N) (hlink : (ev_own μ, (index, ((T k).1, ((T k).2.1, ((T k).2.2.1, host))))) ∈ ev_fe)
    (hv : (ev_fs ci (S.1 a) (S.2.2 a) a)[k]? = some (ev_c g v)) (hok : ev_at g S.2.1 (ci, 0) a → ev_ok g S.2.1 v) (kk : ev_E g μ d B (pc + 3) L (v :: K) S Q) : ev_E g μ d B pc L (ev_o ci a :: K) S Q := by
  intro l p e R s m args below meth c H locs cells slots mc ms Λ ls X hL hz hK
  have h0 : ev_at g S.2.1 (ci, 0) a := by
    have := hK _ List.mem_cons_self
    simpa [ev_ok, ev_ko, hci] using this
  obtain ⟨q, hq⟩ := ev_get_ws (S := S) h0
  simp only [ev_en, hci, if_true] at hq
  exact va_getN (ref := (T k).1) X.1.1 X.1.2.1 X.2.1.1 hin X.1.2.2.2.2.1 X.2.1.2.1 X.2.2.2.1 q hq hcl k hk (X.fe hlink) (fun _ h9 => h9) hv h
    (kk l p e R s m args below meth c H locs cells slots mc ms Λ ls X hL hz (List.forall_mem_cons.mpr ⟨hok h0, fun v hv => hK v (List.mem_cons_of_mem _ hv)⟩))
theorem ev_putN (ci k index : Nat) {C host : String} {T : u_T} {N a : Nat} {x : Int32} (ty0 : Nat → FieldType) (h : decode (ev_by μ) pc = .ok (.putfield index, 3)) (hcl : ev_cl[ci]? = some (C, T, N)) (hci : ci < 16) (hin : ∀ w ∈ u_ws C T N, w ∈ ev_gw) (hty : ∀ k, k < N → parseFieldDescriptor (T k).2.2.1 = some (ty0 k)) (hnm : ∀ a, a < N → ∀ b, b < N → a ≠ b → (T a).2.1 ≠ (T b).2.1) (hk : k < N) (hlink : (ev_own μ, (index, ((T k).1, ((T k).2.1, ((T k).2.2.1, host))))) ∈ ev_fe)
    (hfin : (T k).2.2.2 = false) (ty : FieldType) (hd : parseFieldDescriptor (T k).2.2.1 = some ty) (hn : narrow ty (.int x) = .int x) (hfit : fits ty (.int x) = true) (hset : (ev_fs ci (S.1 a) (S.2.2 a) a).set k (.int x) = ev_fs ci (upd (S.1 a) k x) (S.2.2 a) a) (hkl : k < (ev_fs ci (S.1 a) (S.2.2 a) a).length)
    (kk : ev_E g μ d B (pc + 3) L K (ev_up S a k x) Q) : ev_E g μ d B pc L (ev_i x :: ev_o ci a :: K) S Q := by
  intro l p e R s m args below meth c H locs cells slots mc ms Λ ls X hL hz hK
  have h0 : ev_at g S.2.1 (ci, 0) a := by
    have := hK _ (List.mem_cons_of_mem _ List.mem_cons_self)
    simpa [ev_ok, ev_ko, hci] using this
  obtain ⟨q, hq⟩ := ev_get_ws (S := S) h0
  have hq' := hq
  simp only [ev_en, hci, if_true] at hq'
  refine va_putN (ref := (T k).1) X.1.1 X.1.2.1 X.2.1.1 hin ty0 hty hnm X.1.2.2.2.2.1 X.2.1.2.1 X.2.2.2.1 (ev_ws_D X.lw) X.2.2.2.2 q hq' hcl k hk (X.fe hlink) (fun _ h9 => h9) hfin hd hn hfit hkl h (fun H1 locs1 hP hD hS => ?_)
  have e1 := ev_set_ws (r := upd (S.1 a) k x) X.lw h0 hq
  simp only [ev_en, hci, if_true] at e1
  have hP : va_P (ev_D g) ev_cl (List.set (ev_ws g S) q (a, Sum.inr (ci, (ev_fs ci (S.1 a) (S.2.2 a) a).set k (.int x)))) H1 := hP
  rw [hset, e1] at hP
  exact kk l p e R s m args below meth c H1 locs1 cells slots mc ms Λ ls (X.row hP hS) hL hz (fun v hv => hK v (List.mem_cons_of_mem _ (List.mem_cons_of_mem _ hv)))
/-- a board of the law's own -/
theorem ev_aalB {a : Nat} {i : Int32} (h : decode (ev_by μ) pc = .ok (.aaload, 1)) (hi : vp_in i 2) (kk : ev_E g μ d B (pc + 1) L (ev_o 10 (a_bd a i) :: K) S Q) : ev_E g μ d B pc L (ev_i i :: ev_o 26 a :: K) S Q := by
  intro l p e R s m args below meth c H locs cells slots mc ms Λ ls X hL hz hK
  have h0 : ev_at g S.2.1 (26, 2) a := hK _ (List.mem_cons_of_mem _ List.mem_cons_self)
  have hi2 : i.toNatClampNeg < 2 := by
    unfold vp_in at hi
    omega
  obtain ⟨q, hq⟩ := ev_get_ws (S := S) h0
  have hok : ev_ok g S.2.1 (ev_o 10 (a_bd a i)) := by
    show ev_at g S.2.1 (10, 0) (a + 1 + 7 * i.toNatClampNeg)
    have h1 := ev_child h0 (1 + 7 * i.toNatClampNeg, (10, 0)) (by
      generalize i.toNatClampNeg = z at hi2
      have : z = 0 ∨ z = 1 := by omega
      rcases this with rfl | rfl <;> decide)
    rw [show a + 1 + 7 * i.toNatClampNeg = a + (1 + 7 * i.toNatClampNeg) by omega]
    exact h1
  exact va_aldq X.1.1 X.1.2.1 X.2.1.2.1 X.2.2.2.1 q 5 hq rfl hi h (kk l p e R s m args below meth c H locs cells slots mc ms Λ ls X hL hz (List.forall_mem_cons.mpr ⟨hok, fun v hv => hK v (List.mem_cons_of_mem _ (List.mem_cons_of_mem _ hv))⟩))
/-- an Own of a row of them -/
theorem ev_aalO {a : Nat} {i : Int32} (q : Nat) (h : decode (ev_by μ) pc = .ok (.aaload, 1)) (hi : vp_in i 44) (hq0 : S.2.2 a i.toNatClampNeg = some q) (hq1 : (0, q) ∈ S.2.1) (kk : ev_E g μ d B (pc + 1) L (ev_o 11 q :: K) S Q) : ev_E g μ d B pc L (ev_i i :: ev_o 25 a :: K) S Q := by
  intro l p e R s m args below meth c H locs cells slots mc ms Λ ls X hL hz hK
  have h0 : ev_at g S.2.1 (25, 44) a := hK _ (List.mem_cons_of_mem _ List.mem_cons_self)
  obtain ⟨q2, hq⟩ := ev_get_ws (S := S) h0
  have hok : ev_ok g S.2.1 (ev_o 11 q) := ev_tree (o := 0) hq1 rfl
  refine va_aldq X.1.1 X.1.2.1 X.2.1.2.1 X.2.2.2.1 q2 3 hq rfl hi h ?_
  rw [hq0]
  exact kk l p e R s m args below meth c H locs cells slots mc ms Λ ls X hL hz (List.forall_mem_cons.mpr ⟨hok, fun v hv => hK v (List.mem_cons_of_mem _ (List.mem_cons_of_mem _ hv))⟩)
theorem ev_aastO {a v : Nat} {i : Int32} (h : decode (ev_by μ) pc = .ok (.aastore, 1)) (hi : vp_in i 44) (kk : ev_E g μ d B (pc + 1) L K (ev_uo S a i.toNatClampNeg v) Q) : ev_E g μ d B pc L (ev_o 11 v :: ev_i i :: ev_o 25 a :: K) S Q := by
  intro l p e R s m args below meth c H locs cells slots mc ms Λ ls X hL hz hK
  have h0 : ev_at g S.2.1 (25, 44) a := hK _ (List.mem_cons_of_mem _ (List.mem_cons_of_mem _ List.mem_cons_self))
  have h1 : ev_at g S.2.1 (11, 0) v := hK _ List.mem_cons_self
  obtain ⟨q, hq⟩ := ev_get_ws (S := S) h0
  obtain ⟨q1, hq1⟩ := ev_get_ws (S := S) h1
  refine va_astq X.1.1 X.1.2.1 X.2.1.2.1 X.2.2.2.1 (ev_ws_D X.lw) X.2.2.2.2 q 3 q1 11 (r := (RX11, TX11, 34)) hq rfl hq1 rfl hi h (fun H1 locs1 hP hD hS => ?_)
  have e1 := ev_set_gen (S' := ev_uo S a i.toNatClampNeg v) X.lw hq h0 rfl (fun c hc => rfl) (fun c hc => va_up_ne _ _ hc)
  have e2 : (ev_uo S a i.toNatClampNeg v).2.2 a = va_up (S.2.2 a) i.toNatClampNeg (some v) := va_up_self _ _ _
  rw [e2] at e1
  have hP : va_P (ev_D g) ev_cl (List.set (ev_ws g S) q (a, ev_en g (25, 44) ((ev_uo S a i.toNatClampNeg v).1 a) (va_up (S.2.2 a) i.toNatClampNeg (some v)) a)) H1 := hP
  rw [e1] at hP
  exact kk l p e R s m args below meth c H1 locs1 cells slots mc ms Λ ls (X.row hP hS) hL hz (fun v hv => hK v (List.mem_cons_of_mem _ (List.mem_cons_of_mem _ (List.mem_cons_of_mem _ hv))))
/-- int[2], Own[44] -/
theorem ev_newI2 {x : Int32} (h : decode (ev_by μ) pc = .ok (.newarray .int, 2)) (w1 : Cond.arrayClass .int ∈ ev_gw) (hx : x = 2) (hB : 1 ≤ B) (kk : ∀ q, ev_lw g ((3, q) :: S.2.1) → ev_E g μ d (B - 1) (pc + 2) L (ev_y 2 q :: K) (ev_nt S 3 q (fun _ _ => 0)) Q) : ev_E g μ d B pc L (ev_i x :: K) S Q := by
  intro l p e R s m args below meth c H locs cells slots mc ms Λ ls X hL hz hK
  subst hx
  have X4 := X.rm
  refine va_newa (atype := .int) (N' := 2) (a0 := (2, .inl (fun _ => 0))) X.1.1 X.1.2.1 (X.2.1.1 _ w1) rfl X.2.1.2.1 X.2.2.2.1 (ev_ws_D X.lw) X.2.2.2.2 (fun q hq => Nat.le_trans X.2.1.2.2.2 hq) (fun cA => rfl) (by decide) (by decide) (by decide) (by omega) (by omega) h (fun q cA H1 hK1 hP hD hS => ?_)
  have hcA : cA = ev_cI g := by
    have h1 := (hK1.2 6 (cA, .int) rfl).2
    have h2 := (X.2.1.2.1.2 0 (ev_cI g, .int) rfl).2
    exact Option.some.inj (h1.symm.trans h2)
  subst hcA
  obtain ⟨hw, hP1⟩ := ev_nt1 (t := 3) (k := (19, 2)) (R := fun _ _ => 0) rfl X.lw rfl hP hD
  exact kk q hw l p e R s m args below meth c H1 locs (cells + 1) (slots + 2) mc ms Λ ls (X.grow hw hP1 hS hB (Nat.le_refl _) (by omega)) (ev_L_up (List.suffix_cons _ _) hL) hz (List.forall_mem_cons.mpr ⟨ev_tree (t := 3) (o := 0) List.mem_cons_self rfl, fun v hv => ev_ok_up (List.suffix_cons _ _) (hK v (List.mem_cons_of_mem _ hv))⟩)
theorem ev_newOs {x : Int32} {index : Nat} (h : decode (ev_by μ) pc = .ok (.anewarray index, 3)) (w1 : Cond.classLink (ev_own μ) index "MulePostBishopsLaw$Own" ∈ ev_gw) (hx : x = 44) (hB : 8 ≤ B) (kk : ∀ q, ev_lw g ((2, q) :: S.2.1) → ev_E g μ d (B - 8) (pc + 3) L (ev_o 25 q :: K) (ev_nt S 2 q (fun _ _ => 0)) Q) : ev_E g μ d B pc L (ev_i x :: K) S Q := by
  intro l p e R s m args below meth c H locs cells slots mc ms Λ ls X hL hz hK
  subst hx
  have X4 := X.rm
  refine va_newq (N' := 44) (C := "MulePostBishopsLaw$Own") X.1.1 X.1.2.1 X.1.2.2.2.2.1 (X.2.1.1 _ w1) X.2.1.2.2.1.1.2.2.2.2.2.2.1 X.2.1.2.1 X.2.2.2.1 (ev_ws_D X.lw) X.2.2.2.2 (fun q hq => Nat.le_trans X.2.1.2.2.2 hq) (by decide) (by decide) (by decide) (by omega) (by omega) h (fun q cA H1 hK1 hP hD hS => ?_)
  have hcA : cA = ev_cO g := by
    obtain ⟨kA, comp, -, -, -, h1⟩ := (hK1.2 6 (cA, .object "MulePostBishopsLaw$Own") rfl).2
    obtain ⟨kA', comp', -, -, -, h2⟩ := (X.2.1.2.1.2 3 (ev_cO g, .object "MulePostBishopsLaw$Own") rfl).2
    exact Option.some.inj (h1.symm.trans h2)
  subst hcA
  obtain ⟨hw, hP1⟩ := ev_nt1 (t := 2) (k := (25, 44)) (R := fun _ _ => 0) rfl X.lw rfl hP hD
  exact kk q hw l p e R s m args below meth c H1 locs (cells + 1) (slots + 44) mc ms Λ ls (X.grow hw hP1 hS hB (by omega) (by omega)) (ev_L_up (List.suffix_cons _ _) hL) hz (List.forall_mem_cons.mpr ⟨ev_tree (t := 2) (o := 0) List.mem_cons_self rfl, fun v hv => ev_ok_up (List.suffix_cons _ _) (hK v (List.mem_cons_of_mem _ hv))⟩)
end EvNew
