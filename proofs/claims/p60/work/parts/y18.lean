/-! ===== StringBuilder and String that were made; their bytes: rows ===== -/
theorem jb_ko (m : Nat) : ev_ko (1000 + m) = (23, m) := by
  unfold ev_ko
  rw [if_neg (by omega), if_neg (by omega), if_neg (by omega), Nat.add_sub_cancel_left]
theorem jb_okb {g : ev_G} {Λ : ev_Y} {m v : Nat} (h : (10 + m, v) ∈ Λ) : ev_ok g Λ (ev_o (1000 + m) v) := by
  show ev_at g Λ (ev_ko (1000 + m)) v
  rw [jb_ko]
  exact ev_tree (g := g) (o := 0) (k := (23, m)) h (by rw [ev_tk_big (by omega)]; show some (23, 10 + m - 10) = _; rw [Nat.add_sub_cancel_left])
theorem jb_tkb (m : Nat) : ev_tk (10 + m) = [(23, m)] := by
  rw [ev_tk_big (by omega), Nat.add_sub_cancel_left]
theorem ev_Cv.sx {g : ev_G} {μ : ev_M} {d B : Nat} {args : List ev_V} {S : ev_S} {Q : ev_O → ev_S → Prop} (h : ev_Cv g μ d B args S (fun o z => S.2.1 <:+ z.2.1 → ev_lw g z.2.1 → Q o z)) : ev_Cv g μ d B args S Q := by
  intro hok l hl
  intro p e ha hc hk s m as below hf happ hP hK
  obtain ⟨n, o, h1, h2, h3, h4⟩ := h hok l hl p e ha hc hk s m as below hf happ hP hK
  refine ⟨n, o, h1, h2, h3, ?_⟩
  rcases h4 with ⟨⟨ov, S', c1, c2, c3, c4, c5, c6, c7⟩, b4⟩ | ⟨q, e1, E, ce, L', ⟨k, S', c1, c2, c3, c4, c5, c6, c7⟩, e2⟩
  · exact Or.inl ⟨⟨ov, S', c1, c2, c3 c6 c7, c4, c5, c6, c7⟩, b4⟩
  · exact Or.inr ⟨q, e1, E, ce, L', ⟨k, S', c1, c2, c3 c6 c7, c4, c5, c6, c7⟩, e2⟩
theorem ev_Cv.met {g : ev_G} {μ : ev_M} {d B : Nat} {args : List ev_V} {S : ev_S} {Q : ev_O → ev_S → Prop} (h : ev_Cv g μ d B args S Q) (hn : ∀ k z, ¬ Q (.inr k) z) (hok : ∀ v ∈ args, ev_ok g S.2.1 v) {l : Launch} (hl : l.stackTraces = false) : Met l (ev_mn μ) (ev_wm μ) (ev_rm d B) (ev_Pc g args S) (ev_Qc g S.2.1 Q) B (6 * B) (ev_A g) := by
  intro p e ha hc hk s m as below hf happ hP hK
  obtain ⟨n, o, h1, h2, h3, h4⟩ := h hok l hl p e ha hc hk s m as below hf happ hP hK
  refine ⟨n, o, h1, h2, h3, ?_⟩
  rcases h4 with h4 | ⟨q, e1, E, ce, L', ⟨k, S', c1, c2, c3, c4⟩, e2⟩
  · exact h4
  · exact (hn k S' c3).elim
/-- a private method of a superclass, called on an object of the class -/
theorem jb_selP {y : MethodName} {C : String} {s : State} {args : Array Value} {n : Nat} (hins : (Cond.instantiable C n).before args s = true) (hpriv : (Cond.privateMethod y).before args s = true) (hinst : (Cond.instanceMethod y).before args s = true) (hsame : (Cond.sameMethod y.cls y.cls y.name y.desc).before args s = true) : (Cond.selects C y y).before args s = true := by
  obtain ⟨c, k, hc, hk, -, -, -, -⟩ := Cond.instantiable_spec hins
  obtain ⟨mk, methM, hnamed, hmethM, -, -⟩ := Cond.instanceMethod_spec hinst
  obtain ⟨cn, ck, r1, hcn, hck, hni, hf, hn1⟩ := Cond.sameMethod_found hsame
  have e1 : r1 = mk := Option.some.inj (hn1.symm.trans hnamed)
  subst e1
  have hcls : r1.cls = cn := Option.some.inj ((findClass_of_methodNamed hnamed).symm.trans hcn)
  have hsel : selectMethod {} s.vm c r1 = .method r1 := selectMethod_private hmethM (Cond.privateMethod_at hpriv r1 methM hnamed hmethM)
  simp only [Cond.before, Cond.holds, Cond.value, hc, hf, hnamed, hsel, hcls, hck]
  simp; exact hni
section Jb
variable {g : ev_G} {μ : ev_M} {d B pc : Nat} {L : List (Option ev_V)} {K : List ev_V} {S : ev_S} {Q : ev_O → ev_S → Prop}
theorem ev_lwE (h : ev_lw g S.2.1 → ev_E g μ d B pc L K S Q) : ev_E g μ d B pc L K S Q := by
  intro l p e R s m args below meth c H locs cells slots mc ms Λ ls X
  exact h X.lw l p e R s m args below meth c H locs cells slots mc ms Λ ls X
theorem gf_12_0 {index a m v : Nat} (h : decode (ev_by μ) pc = .ok (.getfield index, 3)) (hl : Cond.fieldLink (ev_own μ) index "java/lang/AbstractStringBuilder" "value" "[B" ∈ ev_gw) (h0 : S.2.2 a 0 = some v) (h1 : (10 + m, v) ∈ S.2.1) (kk : ev_E g μ d B (pc + 3) L (ev_o (1000 + m) v :: K) S Q) : ev_E g μ d B pc L (ev_o 12 a :: K) S Q :=
  ev_get 12 0 index (C := RJ4) (T := TJ4) (N := 4) (ev_o (1000 + m) v) h rfl (by decide) in_12 (by decide) hl (by show some (va_rf (S.2.2 a 0)) = some (Value.ref v); rw [h0]; rfl) (fun _ => jb_okb h1) kk
theorem gf_13_0 {index a m v : Nat} (h : decode (ev_by μ) pc = .ok (.getfield index, 3)) (hl : Cond.fieldLink (ev_own μ) index "java/lang/String" "value" "[B" ∈ ev_gw) (h0 : S.2.2 a 0 = some v) (h1 : (10 + m, v) ∈ S.2.1) (kk : ev_E g μ d B (pc + 3) L (ev_o (1000 + m) v :: K) S Q) : ev_E g μ d B pc L (ev_o 13 a :: K) S Q :=
  ev_get 13 0 index (C := RJ0) (T := TJ0) (N := 4) (ev_o (1000 + m) v) h rfl (by decide) in_13 (by decide) hl (by show some (va_rf (S.2.2 a 0)) = some (Value.ref v); rw [h0]; rfl) (fun _ => jb_okb h1) kk
theorem pf_12_0 {index a v k : Nat} (h : decode (ev_by μ) pc = .ok (.putfield index, 3)) (hl : Cond.fieldLink (ev_own μ) index "java/lang/AbstractStringBuilder" "value" "[B" ∈ ev_gw) (kk : ev_E g μ d B (pc + 3) L K (ev_uo S a 0 v) Q) : ev_E g μ d B pc L (ev_o k v :: ev_o 12 a :: K) S Q := by
  intro l p e R s m args below meth c H locs cells slots mc ms Λ ls X hL hz hK
  have h0 : ev_at g S.2.1 (12, 0) a := hK _ (List.mem_cons_of_mem _ List.mem_cons_self)
  obtain ⟨q, hq⟩ := ev_get_ws (S := S) h0
  have hq' : (ev_ws g S)[q]? = some (a, .inr (12, ev_fs 12 (S.1 a) (S.2.2 a) a)) := hq
  refine va_put (T := TJ4) (N := 4) (C := RJ4) (ref := "java/lang/AbstractStringBuilder") (v := .ref v) (ty := .array .byte) X.1.1 X.1.2.1 X.2.1.1 in_12 tyJ4 tyJ4_ok nmJ4 X.1.2.2.2.2.1 X.2.1.2.1 X.2.2.2.1 (ev_ws_D X.lw) X.2.2.2.2 q hq' rfl 0 (by decide) (X.2.1.1 _ hl) (fun _ h9 => h9) rfl (by decide) rfl rfl (by show 0 < 4; decide) h (fun H1 locs1 hP hD hS => ?_)
  have e1 := ev_set_gen (S' := ev_uo S a 0 v) X.lw hq h0 rfl (fun c hc => rfl) (fun c hc => va_up_ne _ _ hc)
  have e2 : (ev_uo S a 0 v).2.2 a = va_up (S.2.2 a) 0 (some v) := va_up_self _ _ _
  rw [e2] at e1
  have hP : va_P (ev_D g) ev_cl (List.set (ev_ws g S) q (a, ev_en g (12, 0) ((ev_uo S a 0 v).1 a) (va_up (S.2.2 a) 0 (some v)) a)) H1 := hP
  rw [e1] at hP
  exact kk l p e R s m args below meth c H1 locs1 cells slots mc ms Λ ls (X.row hP hS) hL hz (fun v hv => hK v (List.mem_cons_of_mem _ (List.mem_cons_of_mem _ hv)))
/-- the final fields of a String -/
theorem pf_13_0 {index a v k : Nat} (h : decode (ev_by μ) pc = .ok (.putfield index, 3)) (hn : (ev_mn μ).name = "<init>") (ho : RJ0 = ev_own μ) (hl : Cond.fieldLink (ev_own μ) index "java/lang/String" "value" "[B" ∈ ev_gw) (kk : ev_E g μ d B (pc + 3) L K (ev_uo S a 0 v) Q) : ev_E g μ d B pc L (ev_o k v :: ev_o 13 a :: K) S Q := by
  intro l p e R s m args below meth c H locs cells slots mc ms Λ ls X hL hz hK
  have h0 : ev_at g S.2.1 (13, 0) a := hK _ (List.mem_cons_of_mem _ List.mem_cons_self)
  obtain ⟨q, hq⟩ := ev_get_ws (S := S) h0
  have hq' : (ev_ws g S)[q]? = some (a, .inr (13, ev_fs 13 (S.1 a) (S.2.2 a) a)) := hq
  refine va_putF (T := TJ0) (N := 4) (C := RJ0) (ref := "java/lang/String") (v := .ref v) (ty := .array .byte) X.1.1 X.1.2.1 X.2.1.1 in_13 tyJ0 tyJ0_ok nmJ0 X.1.2.2.2.2.1 X.2.1.2.1 X.2.2.2.1 (ev_ws_D X.lw) X.2.2.2.2 q hq' rfl 0 (by decide) (X.2.1.1 _ hl) (fun _ h9 => h9) rfl (X.nm.trans hn) ho (by decide) rfl rfl (by show 0 < 4; decide) h (fun H1 locs1 hP hD hS => ?_)
  have e1 := ev_set_gen (S' := ev_uo S a 0 v) X.lw hq h0 rfl (fun c hc => rfl) (fun c hc => va_up_ne _ _ hc)
  have e2 : (ev_uo S a 0 v).2.2 a = va_up (S.2.2 a) 0 (some v) := va_up_self _ _ _
  rw [e2] at e1
  have hP : va_P (ev_D g) ev_cl (List.set (ev_ws g S) q (a, ev_en g (13, 0) ((ev_uo S a 0 v).1 a) (va_up (S.2.2 a) 0 (some v)) a)) H1 := hP
  rw [e1] at hP
  exact kk l p e R s m args below meth c H1 locs1 cells slots mc ms Λ ls (X.row hP hS) hL hz (fun v hv => hK v (List.mem_cons_of_mem _ (List.mem_cons_of_mem _ hv)))
theorem pf_13_1 {index a : Nat} (h : decode (ev_by μ) pc = .ok (.putfield index, 3)) (hn : (ev_mn μ).name = "<init>") (ho : RJ0 = ev_own μ) (hl : Cond.fieldLink (ev_own μ) index "java/lang/String" "coder" "B" ∈ ev_gw) (kk : ev_E g μ d B (pc + 3) L K (ev_up S a 1 0) Q) : ev_E g μ d B pc L (ev_i 0 :: ev_o 13 a :: K) S Q := by
  intro l p e R s m args below meth c H locs cells slots mc ms Λ ls X hL hz hK
  have h0 : ev_at g S.2.1 (13, 0) a := hK _ (List.mem_cons_of_mem _ List.mem_cons_self)
  obtain ⟨q, hq⟩ := ev_get_ws (S := S) h0
  have hq' : (ev_ws g S)[q]? = some (a, .inr (13, ev_fs 13 (S.1 a) (S.2.2 a) a)) := hq
  refine va_putF (T := TJ0) (N := 4) (C := RJ0) (ref := "java/lang/String") (v := .int 0) (ty := .byte) X.1.1 X.1.2.1 X.2.1.1 in_13 tyJ0 tyJ0_ok nmJ0 X.1.2.2.2.2.1 X.2.1.2.1 X.2.2.2.1 (ev_ws_D X.lw) X.2.2.2.2 q hq' rfl 1 (by decide) (X.2.1.1 _ hl) (fun _ h9 => h9) rfl (X.nm.trans hn) ho (by decide) rfl rfl (by show 1 < 4; decide) h (fun H1 locs1 hP hD hS => ?_)
  have e1 := ev_set_ws (r := upd (S.1 a) 1 0) X.lw h0 hq
  have hP : va_P (ev_D g) ev_cl (List.set (ev_ws g S) q (a, ev_en g (13, 0) (upd (S.1 a) 1 0) (S.2.2 a) a)) H1 := hP
  rw [e1] at hP
  exact kk l p e R s m args below meth c H1 locs1 cells slots mc ms Λ ls (X.row hP hS) hL hz (fun v hv => hK v (List.mem_cons_of_mem _ (List.mem_cons_of_mem _ hv)))
theorem ev_balB {n a : Nat} {i : Int32} (h : decode (ev_by μ) pc = .ok (.baload, 1)) (hi : vp_in i n) (kk : ev_E g μ d B (pc + 1) L (ev_i (S.1 a i.toNatClampNeg) :: K) S Q) : ev_E g μ d B pc L (ev_i i :: ev_o (1000 + n) a :: K) S Q := by
  intro l p e R s m args below meth c H locs cells slots mc ms Λ ls X hL hz hK
  have h0 : ev_at g S.2.1 (23, n) a := ev_ko_b (hK _ (List.mem_cons_of_mem _ List.mem_cons_self))
  obtain ⟨q, hq⟩ := ev_get_ws (S := S) h0
  exact va_bald X.1.1 X.1.2.1 X.2.1.2.1 X.2.2.2.1 q 2 hq rfl hi h (kk l p e R s m args below meth c H locs cells slots mc ms Λ ls X hL hz (List.forall_mem_cons.mpr ⟨trivial, fun v hv => hK v (List.mem_cons_of_mem _ (List.mem_cons_of_mem _ hv))⟩))
theorem ev_basB {n a : Nat} {i x : Int32} (h : decode (ev_by μ) pc = .ok (.bastore, 1)) (hi : vp_in i n) (hx : vp_nar .byte x = x) (kk : ev_E g μ d B (pc + 1) L K (ev_up S a i.toNatClampNeg x) Q) : ev_E g μ d B pc L (ev_i x :: ev_i i :: ev_o (1000 + n) a :: K) S Q := by
  intro l p e R s m args below meth c H locs cells slots mc ms Λ ls X hL hz hK
  have h0 : ev_at g S.2.1 (23, n) a := ev_ko_b (hK _ (List.mem_cons_of_mem _ (List.mem_cons_of_mem _ List.mem_cons_self)))
  obtain ⟨q, hq⟩ := ev_get_ws (S := S) h0
  refine va_bast X.1.1 X.1.2.1 X.2.1.2.1 X.2.2.2.1 (ev_ws_D X.lw) X.2.2.2.2 q 2 hq rfl hi h (fun H1 locs1 hP hD hS => ?_)
  have e1 := ev_set_ws (r := upd (S.1 a) i.toNatClampNeg x) X.lw h0 hq
  rw [hx] at hP
  have hP : va_P (ev_D g) ev_cl (List.set (ev_ws g S) q (a, ev_en g (23, n) (upd (S.1 a) i.toNatClampNeg x) (S.2.2 a) a)) H1 := hP
  rw [e1] at hP
  exact kk l p e R s m args below meth c H1 locs1 cells slots mc ms Λ ls (X.row hP hS) hL hz (fun v hv => hK v (List.mem_cons_of_mem _ (List.mem_cons_of_mem _ (List.mem_cons_of_mem _ hv))))
theorem ev_alenB {n a : Nat} (h : decode (ev_by μ) pc = .ok (.arraylength, 1)) (kk : ev_E g μ d B (pc + 1) L (ev_i (Int32.ofNat n) :: K) S Q) : ev_E g μ d B pc L (ev_o (1000 + n) a :: K) S Q := by
  intro l p e R s m args below meth c H locs cells slots mc ms Λ ls X hL hz hK
  have h0 : ev_at g S.2.1 (23, n) a := ev_ko_b (hK _ List.mem_cons_self)
  obtain ⟨q, hq⟩ := ev_get_ws (S := S) h0
  exact va_alen X.1.1 X.1.2.1 X.2.1.2.1 X.2.2.2.1 q 2 hq rfl rfl h (kk l p e R s m args below meth c H locs cells slots mc ms Λ ls X hL hz (List.forall_mem_cons.mpr ⟨trivial, fun v hv => hK v (List.mem_cons_of_mem _ hv)⟩))
theorem ev_newB {x : Int32} (m c9 : Nat) (h : decode (ev_by μ) pc = .ok (.newarray .byte, 2)) (w1 : Cond.arrayClass .byte ∈ ev_gw) (hx : x = Int32.ofNat m) (hm : m ≤ 65536) (hB : c9 ≤ B) (h1 : 1 ≤ c9) (h2 : m ≤ 6 * c9) (kk : ∀ q, ev_lw g ((10 + m, q) :: S.2.1) → ev_E g μ d (B - c9) (pc + 2) L (ev_o (1000 + m) q :: K) (ev_nt S (10 + m) q (fun _ _ => 0)) Q) : ev_E g μ d B pc L (ev_i x :: K) S Q := by
  intro l p e R s m' args below meth c H locs cells slots mc ms Λ ls X hL hz hK
  subst hx
  have X4 := X.rm
  refine va_newa (atype := .byte) (ty := .byte) (N' := m) (a0 := (m, .inl (fun _ => 0))) X.1.1 X.1.2.1 (X.2.1.1 _ w1) rfl X.2.1.2.1 X.2.2.2.1 (ev_ws_D X.lw) X.2.2.2.2 (fun q hq => Nat.le_trans X.2.1.2.2.2 hq) (fun cA => rfl) (nI_pos (n := m) (by omega)) (nI_clamp (n := m) (by omega)) (by show m * 1 ≤ _; omega) (by omega) (by omega) h (fun q cA H1 hK1 hP hD hS => ?_)
  have hcA : cA = ev_cB g := by
    have h1 := (hK1.2 6 (cA, .byte) rfl).2
    have h2 := (X.2.1.2.1.2 2 (ev_cB g, .byte) rfl).2
    exact Option.some.inj (h1.symm.trans h2)
  subst hcA
  obtain ⟨hw, hP1⟩ := ev_nt1 (t := 10 + m) (k := (23, m)) (R := fun _ _ => 0) (jb_tkb m) X.lw rfl hP hD
  exact kk q hw l p e R s m' args below meth c H1 locs (cells + 1) (slots + m) mc ms Λ ls (X.grow hw hP1 hS hB h1 h2) (ev_L_up (List.suffix_cons _ _) hL) hz (List.forall_mem_cons.mpr ⟨jb_okb List.mem_cons_self, fun v hv => ev_ok_up (List.suffix_cons _ _) (hK v (List.mem_cons_of_mem _ hv))⟩)
theorem ev_newSB {index : Nat} (h : decode (ev_by μ) pc = .ok (.new index, 3)) (w1 : Cond.classLink (ev_own μ) index RJ4 ∈ ev_gw) (w2 : Cond.instantiable RJ4 4 ∈ ev_gw) (w3 : Cond.initialized RJ4 ∈ ev_gw) (hB : 1 ≤ B) (kk : ∀ q, ev_lw g ((4, q) :: S.2.1) → ev_E g μ d (B - 1) (pc + 3) L (ev_o 12 q :: K) (ev_nt S 4 q (fun _ _ => 0)) Q) : ev_E g μ d B pc L K S Q := by
  intro l p e R s m args below meth c H locs cells slots mc ms Λ ls X hL hz hK
  have X4 := X.rm
  refine va_new (C := RJ4) (T := TJ4) (N := 4) (ci := 12) (fs := ev_fs 12 (fun _ => 0) (fun _ => none) 0) X.1.1 X.1.2.1 X.2.1.1 in_12 tyJ4 tyJ4_ok X.1.2.2.2.2.1 (X.2.1.1 _ w1) (X.2.1.1 _ w2) (X.2.1.1 _ w3) X.2.1.2.1 X.2.2.2.1 (ev_ws_D X.lw) X.2.2.2.2 (fun q hq => Nat.le_trans X.2.1.2.2.2 hq) rfl (fun j hj => ?_) (by omega) (by omega) h (fun q H1 hP hD hS => ?_)
  · have : j = 0 ∨ j = 1 ∨ j = 2 ∨ j = 3 := by omega
    rcases this with rfl | rfl | rfl | rfl <;> rfl
  obtain ⟨hw, hP1⟩ := ev_nt1 (t := 4) (k := (12, 0)) (R := fun _ _ => 0) rfl X.lw rfl hP hD
  exact kk q hw l p e R s m args below meth c H1 locs (cells + 1) (slots + 4) mc ms Λ ls (X.grow hw hP1 hS hB (Nat.le_refl _) (by omega)) (ev_L_up (List.suffix_cons _ _) hL) hz (List.forall_mem_cons.mpr ⟨ev_tree (t := 4) (o := 0) List.mem_cons_self rfl, fun v hv => ev_ok_up (List.suffix_cons _ _) (hK v hv)⟩)
theorem ev_newST {index : Nat} (h : decode (ev_by μ) pc = .ok (.new index, 3)) (w1 : Cond.classLink (ev_own μ) index RJ0 ∈ ev_gw) (w2 : Cond.instantiable RJ0 4 ∈ ev_gw) (w3 : Cond.initialized RJ0 ∈ ev_gw) (hB : 1 ≤ B) (kk : ∀ q, ev_lw g ((5, q) :: S.2.1) → ev_E g μ d (B - 1) (pc + 3) L (ev_o 13 q :: K) (ev_nt S 5 q (fun _ _ => 0)) Q) : ev_E g μ d B pc L K S Q := by
  intro l p e R s m args below meth c H locs cells slots mc ms Λ ls X hL hz hK
  have X4 := X.rm
  refine va_new (C := RJ0) (T := TJ0) (N := 4) (ci := 13) (fs := ev_fs 13 (fun _ => 0) (fun _ => none) 0) X.1.1 X.1.2.1 X.2.1.1 in_13 tyJ0 tyJ0_ok X.1.2.2.2.2.1 (X.2.1.1 _ w1) (X.2.1.1 _ w2) (X.2.1.1 _ w3) X.2.1.2.1 X.2.2.2.1 (ev_ws_D X.lw) X.2.2.2.2 (fun q hq => Nat.le_trans X.2.1.2.2.2 hq) rfl (fun j hj => ?_) (by omega) (by omega) h (fun q H1 hP hD hS => ?_)
  · have : j = 0 ∨ j = 1 ∨ j = 2 ∨ j = 3 := by omega
    rcases this with rfl | rfl | rfl | rfl <;> rfl
  obtain ⟨hw, hP1⟩ := ev_nt1 (t := 5) (k := (13, 0)) (R := fun _ _ => 0) rfl X.lw rfl hP hD
  exact kk q hw l p e R s m args below meth c H1 locs (cells + 1) (slots + 4) mc ms Λ ls (X.grow hw hP1 hS hB (Nat.le_refl _) (by omega)) (ev_L_up (List.suffix_cons _ _) hL) hz (List.forall_mem_cons.mpr ⟨ev_tree (t := 5) (o := 0) List.mem_cons_self rfl, fun v hv => ev_ok_up (List.suffix_cons _ _) (hK v hv)⟩)
theorem ev_null (h : decode (ev_by μ) pc = .ok (.aconst_null, 1)) (kk : ev_E g μ d B (pc + 1) L (ev_x 5 0 :: K) S Q) : ev_E g μ d B pc L K S Q := by
  intro l p e R s m args below meth c H locs cells slots mc ms Λ ls X hL hz hK
  exact lv_null X.1.1 X.1.2.1 h (kk l p e R s m args below meth c H locs cells slots mc ms Λ ls X hL hz (List.forall_mem_cons.mpr ⟨(fun h => by rcases h with h | h <;> cases h), hK⟩))
theorem ev_dupx1 {v w : ev_V} (h : decode (ev_by μ) pc = .ok (.dup_x1, 1)) (hv : ev_w v = 1) (hw : ev_w w = 1) (kk : ev_E g μ d B (pc + 1) L (v :: w :: v :: K) S Q) : ev_E g μ d B pc L (v :: w :: K) S Q := by
  intro l p e R s m args below meth c H locs cells slots mc ms Λ ls X hL hz hK
  exact lv_dup_x1 X.1.1 X.1.2.1 h (by rw [ev_cat g v X.fm]; exact hv) (by rw [ev_cat g w X.fm]; exact hw) (kk l p e R s m args below meth c H locs cells slots mc ms Λ ls X hL hz (List.forall_mem_cons.mpr ⟨hK v List.mem_cons_self, List.forall_mem_cons.mpr ⟨hK w (List.mem_cons_of_mem _ List.mem_cons_self), List.forall_mem_cons.mpr ⟨hK v List.mem_cons_self, fun v hv => hK v (List.mem_cons_of_mem _ (List.mem_cons_of_mem _ hv))⟩⟩⟩))
theorem ev_i2b {x : Int32} (h : decode (ev_by μ) pc = .ok (.i2b, 1)) (hx : x.toInt8.toInt32 = x) (kk : ev_E g μ d B (pc + 1) L (ev_i x :: K) S Q) : ev_E g μ d B pc L (ev_i x :: K) S Q := by
  intro l p e R s m args below meth c H locs cells slots mc ms Λ ls X hL hz hK
  exact lv_i2b X.1.1 X.1.2.1 h hx (kk l p e R s m args below meth c H locs cells slots mc ms Λ ls X hL hz (List.forall_mem_cons.mpr ⟨trivial, fun v hv => hK v (List.mem_cons_of_mem _ hv)⟩))
theorem ev_dig1 {index : Nat} (h : decode (ev_by μ) pc = .ok (.getstatic index, 3)) (hlink : Cond.fieldLink (ev_own μ) index "java/lang/Integer" "DigitOnes" "[B" ∈ ev_gw) (kk : ev_E g μ d B (pc + 3) L (ev_x 6 0 :: K) S Q) : ev_E g μ d B pc L K S Q := by
  intro l p e R s m args below meth c H locs cells slots mc ms Λ ls X hL hz hK
  exact va_gets X.1.1 X.1.2.1 X.2.1.2.2.1.2.2.2.2.2.2.2.2.1 X.2.2.2.2 X.1.2.2.2.2.1 (X.2.1.1 _ hlink) (fun _ h9 => h9) h (kk l p e R s m args below meth c H locs cells slots mc ms Λ ls X hL hz (List.forall_mem_cons.mpr ⟨(fun h => by rcases h with h | h <;> cases h), hK⟩))
theorem ev_dig2 {index : Nat} (h : decode (ev_by μ) pc = .ok (.getstatic index, 3)) (hlink : Cond.fieldLink (ev_own μ) index "java/lang/Integer" "DigitTens" "[B" ∈ ev_gw) (kk : ev_E g μ d B (pc + 3) L (ev_x 7 0 :: K) S Q) : ev_E g μ d B pc L K S Q := by
  intro l p e R s m args below meth c H locs cells slots mc ms Λ ls X hL hz hK
  exact va_gets X.1.1 X.1.2.1 X.2.1.2.2.1.2.2.2.2.2.2.2.2.2.1 X.2.2.2.2 X.1.2.2.2.2.1 (X.2.1.1 _ hlink) (fun _ h9 => h9) h (kk l p e R s m args below meth c H locs cells slots mc ms Λ ls X hL hz (List.forall_mem_cons.mpr ⟨(fun h => by rcases h with h | h <;> cases h), hK⟩))
theorem ev_dat1 {i : Int32} (h : decode (ev_by μ) pc = .ok (.baload, 1)) (hj : vp_in i 100) (kk : ev_E g μ d B (pc + 1) L (ev_i (ev_g1 i.toNatClampNeg) :: K) S Q) : ev_E g μ d B pc L (ev_i i :: ev_x 6 0 :: K) S Q := by
  intro l p e R s m args below meth c H locs cells slots mc ms Λ ls X hL hz hK
  exact va_tb X.1.1 X.1.2.1 X.2.1.2.2.1.2.2.2.2.2.2.2.2.2.2.1 X.2.2.2.2 hj rfl h (kk l p e R s m args below meth c H locs cells slots mc ms Λ ls X hL hz (List.forall_mem_cons.mpr ⟨trivial, fun v hv => hK v (List.mem_cons_of_mem _ (List.mem_cons_of_mem _ hv))⟩))
theorem ev_dat2 {i : Int32} (h : decode (ev_by μ) pc = .ok (.baload, 1)) (hj : vp_in i 100) (kk : ev_E g μ d B (pc + 1) L (ev_i (ev_g2 i.toNatClampNeg) :: K) S Q) : ev_E g μ d B pc L (ev_i i :: ev_x 7 0 :: K) S Q := by
  intro l p e R s m args below meth c H locs cells slots mc ms Λ ls X hL hz hK
  exact va_tb X.1.1 X.1.2.1 X.2.1.2.2.1.2.2.2.2.2.2.2.2.2.2.2 X.2.2.2.2 hj rfl h (kk l p e R s m args below meth c H locs cells slots mc ms Λ ls X hL hz (List.forall_mem_cons.mpr ⟨trivial, fun v hv => hK v (List.mem_cons_of_mem _ (List.mem_cons_of_mem _ hv))⟩))
/-- Object's own constructor -/
theorem ev_objI {index k a : Nat} (h : decode (ev_by μ) pc = .ok (.invokespecial index, 3)) (w1 : Cond.methodLink (ev_own μ) index objectInit ∈ ev_gw) (w2 : Cond.instanceMethod objectInit ∈ ev_gw) (w3 : Cond.code objectInit ⟨#[0xb1]⟩ 1 none ∈ ev_gw) (kk : ev_E g μ d B (pc + 3) L [] S Q) : ev_E g μ d B pc L [ev_o k a] S Q := by
  intro l p e R s m args below meth c H locs cells slots mc ms Λ ls X hL hz hK
  refine W.objInit X.1.1 X.1.2.1 X.1.2.2.2.2.1 (X.2.1.1 _ w1) (X.2.1.1 _ w2) (X.2.1.1 _ w3) rfl (hz.trans X.1.2.2.2.1.symm) rfl h ?_ ?_ (kk l p e R s m args below meth c H locs cells slots mc ms Λ ls X hL hz (fun v hv => by cases hv))
  · have := X.rm; omega
  · refine Nat.le_trans (Nat.add_le_add_right (lv_room (st := []) (Nat.zero_le _)) 12) ?_
    have := X.rm; omega
/-- arraycopy of bytes -/
theorem ev_cpyB {index n0 n1 a0 a1 : Nat} {sp dp n : Int32} (h : decode (ev_by μ) pc = .ok (.invokestatic index, 3)) (hlink : Cond.methodLink (ev_own μ) index arraycopyName ∈ ev_gw) (hnat : Cond.native arraycopyName ∈ ev_gw) (hstat : Cond.static arraycopyName ∈ ev_gw) (hini : Cond.initialized "java/lang/System" ∈ ev_gw) (h1 : ¬ sp < 0) (h2 : ¬ dp < 0) (h3 : ¬ n < 0) (h4 : sp.toNatClampNeg + n.toNatClampNeg ≤ n0) (h5 : dp.toNatClampNeg + n.toNatClampNeg ≤ n1) (hfit : ∀ i, i < n.toNatClampNeg → fits .byte (.int (S.1 a0 (sp.toNatClampNeg + i))) = true) (hcat : (K.map ev_w).sum ≤ 8)
    (kk : ev_E g μ d B (pc + 3) L K (ev_ur S a1 (va_cpy (S.1 a0) (S.1 a1) sp.toNatClampNeg dp.toNatClampNeg n.toNatClampNeg)) Q) : ev_E g μ d B pc L (ev_i n :: ev_i dp :: ev_o (1000 + n1) a1 :: ev_i sp :: ev_o (1000 + n0) a0 :: K) S Q := by
  intro l p e R s m args below meth c H locs cells slots mc ms Λ ls X hL hz hK
  have hr := X.2.2.1
  have h0 : ev_at g S.2.1 (23, n1) a1 := ev_ko_b (hK (ev_o (1000 + n1) a1) (by simp))
  have h9 : ev_at g S.2.1 (23, n0) a0 := ev_ko_b (hK (ev_o (1000 + n0) a0) (by simp))
  obtain ⟨q, hq⟩ := ev_get_ws (S := S) h0
  obtain ⟨q2, hq2⟩ := ev_get_ws (S := S) h9
  have hnw : nativeFrameWords "java/lang/System" "arraycopy" 5 + 11 ≤ 40 := by decide
  refine va_copyi X.1.1 X.1.2.1 (X.1.2.2.2.1.trans hz.symm) X.1.2.2.2.2.1 (X.2.1.1 _ hlink) (X.2.1.1 _ hnat) (X.2.1.1 _ hstat) (X.2.1.1 _ hini) X.2.1.2.1 X.2.2.2.1 (ev_ws_D X.lw) X.2.2.2.2 q2 q 2 2 hq2 hq rfl rfl rfl h1 h2 h3 h4 h5 hfit (by omega) (by rw [ev_cats X.fm]; omega) h (fun H1 locs1 hP hD hS => ?_)
  have e1 := ev_set_ws (r := va_cpy (S.1 a0) (S.1 a1) sp.toNatClampNeg dp.toNatClampNeg n.toNatClampNeg) X.lw h0 hq
  have hP : va_P (ev_D g) ev_cl (List.set (ev_ws g S) q (a1, ev_en g (23, n1) (va_cpy (S.1 a0) (S.1 a1) sp.toNatClampNeg dp.toNatClampNeg n.toNatClampNeg) (S.2.2 a1) a1)) H1 := hP
  rw [e1] at hP
  exact kk l p e R s m args below meth c H1 locs1 cells slots mc ms Λ ls (X.row hP hS) hL hz (fun v hv => hK v (by simp [hv]))
/-- arraycopy of a literal's bytes -/
theorem ev_cpyK {index n1 a1 i : Nat} {sp dp n : Int32} (h : decode (ev_by μ) pc = .ok (.invokestatic index, 3)) (hlink : Cond.methodLink (ev_own μ) index arraycopyName ∈ ev_gw) (hnat : Cond.native arraycopyName ∈ ev_gw) (hstat : Cond.static arraycopyName ∈ ev_gw) (hini : Cond.initialized "java/lang/System" ∈ ev_gw) (h1 : ¬ sp < 0) (h2 : ¬ dp < 0) (h3 : ¬ n < 0) (h4 : sp.toNatClampNeg + n.toNatClampNeg ≤ ev_le.getD i 0) (h5 : dp.toNatClampNeg + n.toNatClampNeg ≤ n1) (hfit : ∀ j, j < n.toNatClampNeg → fits .byte (.int ((ev_bt.getD i []).getD (sp.toNatClampNeg + j) 0)) = true) (hcat : (K.map ev_w).sum ≤ 8)
    (kk : ev_E g μ d B (pc + 3) L K (ev_ur S a1 (va_cpy (fun j => (ev_bt.getD i []).getD j 0) (S.1 a1) sp.toNatClampNeg dp.toNatClampNeg n.toNatClampNeg)) Q) : ev_E g μ d B pc L (ev_i n :: ev_i dp :: ev_o (1000 + n1) a1 :: ev_i sp :: ev_x 2 i :: K) S Q := by
  intro l p e R s m args below meth c H locs cells slots mc ms Λ ls X hL hz hK
  have hr := X.2.2.1
  have h0 : ev_at g S.2.1 (23, n1) a1 := ev_ko_b (hK (ev_o (1000 + n1) a1) (by simp))
  have hi : i < 15 := hK (ev_x 2 i) (by simp) (Or.inr rfl)
  obtain ⟨q, hq⟩ := ev_get_ws (S := S) h0
  have hnw : nativeFrameWords "java/lang/System" "arraycopy" 5 + 11 ≤ 40 := by decide
  refine vk_copyt (f := fun j => (ev_bt.getD i []).getD j 0) X.1.1 X.1.2.1 (X.1.2.2.2.1.trans hz.symm) X.1.2.2.2.2.1 (X.2.1.1 _ hlink) (X.2.1.1 _ hnat) (X.2.1.1 _ hstat) (X.2.1.1 _ hini) X.2.1.2.1 X.2.2.2.1 (ev_ws_D X.lw) X.2.2.2.2 (X.2.1.2.2.1.2.2.2.2.1 i hi).2.2.2 q 2 hq rfl h1 h2 h3 h4 h5 hfit (by omega) (by rw [ev_cats X.fm]; omega) h (fun H1 locs1 hP hD hS => ?_)
  have e1 := ev_set_ws (r := va_cpy (fun j => (ev_bt.getD i []).getD j 0) (S.1 a1) sp.toNatClampNeg dp.toNatClampNeg n.toNatClampNeg) X.lw h0 hq
  have hP : va_P (ev_D g) ev_cl (List.set (ev_ws g S) q (a1, ev_en g (23, n1) (va_cpy (fun j => (ev_bt.getD i []).getD j 0) (S.1 a1) sp.toNatClampNeg dp.toNatClampNeg n.toNatClampNeg) (S.2.2 a1) a1)) H1 := hP
  rw [e1] at hP
  exact kk l p e R s m args below meth c H1 locs1 cells slots mc ms Λ ls (X.row hP hS) hL hz (fun v hv => hK v (by simp [hv]))
end Jb
