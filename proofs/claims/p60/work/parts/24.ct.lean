/-! ===== constructors: the things as they are made, one behind another ===== -/
/-- kind, length and the first numbers of a new thing (all others 0) -/
abbrev ct_T : Type := List ((Nat × Nat) × List Int32)
def ct_r (l : List Int32) : Nat → Int32 := fun k => l.getD k 0
def ct_en (g : ev_G) (t : (Nat × Nat) × List Int32) (a : Nat) : va_E := ev_en g t.1 (ct_r t.2) (fun _ => none) a
def ct_P (g : ev_G) (tl : ct_T) (a : Nat) (H : Heap) : Prop := ∀ (i : Nat) (t : (Nat × Nat) × List Int32), tl[i]? = some t → va_at (ev_D g) ev_cl (a + i, ct_en g t (a + i)) H
theorem ct_P.nil {g : ev_G} {a : Nat} {H : Heap} : ct_P g [] a H := fun i t h => by simp at h
theorem ct_P.cons {g : ev_G} {t : (Nat × Nat) × List Int32} {tl : ct_T} {a : Nat} {H : Heap} (h1 : va_at (ev_D g) ev_cl (a, ct_en g t a) H) (h2 : ct_P g tl (a + 1) H) : ct_P g (t :: tl) a H := by
  intro i x hx
  cases i with
  | zero =>
    rw [List.getElem?_cons_zero] at hx
    cases hx
    exact h1
  | succ i =>
    rw [List.getElem?_cons_succ] at hx
    have h3 := h2 i x hx
    rwa [show a + 1 + i = a + (i + 1) by omega] at h3
theorem ct_P.app {g : ev_G} {t1 t2 : ct_T} {a b : Nat} {H : Heap} (h1 : ct_P g t1 a H) (h2 : ct_P g t2 b H) (hb : b = a + t1.length) : ct_P g (t1 ++ t2) a H := by
  subst hb
  intro i x hx
  by_cases hi : i < t1.length
  · rw [List.getElem?_append_left hi] at hx
    exact h1 i x hx
  · rw [List.getElem?_append_right (by omega)] at hx
    have h3 := h2 _ x hx
    rwa [show a + t1.length + (i - t1.length) = a + i by omega] at h3
theorem ct_P.kept {g : ev_G} {tl : ct_T} {a : Nat} {H H1 : Heap} (h : ct_P g tl a H) (hq : ∀ q, a ≤ q → q < a + tl.length → H1[q]? = H[q]?) : ct_P g tl a H1 := fun i t ht =>
  (h i t ht).kept (hq _ (Nat.le_add_right _ _) (Nat.add_lt_add_left (List.getElem?_eq_some_iff.mp ht).1 _))
theorem ct_S {g : ev_G} {a : Nat} {H0 H : Heap} {locs : List Loc} (hab : ev_b g ≤ a) (h : va_S (fun q => a ≤ q) H0 H locs) : va_S (ev_A g) H0 H locs :=
  ⟨h.1, fun q h1 h2 => h.2.1 q h1 (fun h3 => h2 (Nat.le_trans hab h3)), fun q hq => Nat.le_trans hab (h.2.2 q hq)⟩
/-- what stays -/
def ct_J (g : ev_G) (U : State) (H : Heap) : Prop := va_K (ev_D g) ev_cl (ev_ty g) U ∧ ev_J g U H ∧ va_AO "MulePostBishops$Game" U
theorem ct_J.next {g : ev_G} {s U : State} {H : Heap} {locs : List Loc} (hW : s.WarmedH U.vm) (hS : va_S (ev_A g) s.heap H locs) (h : ct_J g s s.heap) : ct_J g U H :=
  ⟨va_K.moved hW.alike h.1, h.2.1.next hW hS, va_AO.moved hW.alike h.2.2⟩
/-- a new object of class k lies at a, behind all others -/
def ct_Pc (g : ev_G) (Ex : Heap → Prop) (k a : Nat) (fs args : List Value) : Array Value → State → Prop := va_Pc (.ref a :: args) (fun U => ev_b g ≤ a ∧ U.heap.size = a + 1 ∧ va_at (ev_D g) ev_cl (a, .inr (k, fs)) U.heap ∧ ct_J g U U.heap ∧ Ex U.heap)
theorem ct_blind {g : ev_G} {Ex : Heap → Prop} {k a : Nat} {fs args : List Value} : FrameBlind (ct_Pc g Ex k a fs args) := by
  intro a' U q mk ⟨h1, h2, h3, h4, ⟨h5, h6, h7⟩, h8⟩
  exact ⟨h1, h2, h3, h4, ⟨va_K.moved (u := U) (U := U.calling q mk a') (Vm.Alike.refl U.vm) h5, ev_J.same (u := U) (U := U.calling q mk a') rfl h6, va_AO.moved (u := U) (U := U.calling q mk a') (Vm.Alike.refl U.vm) h7⟩, h8⟩
def ct_Qc (g : ev_G) (tl : ct_T) (a : Nat) : Array Value → State → Outcome → State → Prop := fun _ st o t => o = .returned none ∧ t.heap.size = a + tl.length ∧ ct_P g tl a t.heap ∧ va_F (fun q => a ≤ q) st t
def ct_rm (d mc ms : Nat) : Room := { frames := d + 6, cells := mc, slots := ms, locals := 30 * d + 300 }
/-- the constructor's contract -/
def ct_Met (g : ev_G) (μ : ev_M) (k a d mc ms : Nat) (Ex : Heap → Prop) (fs args : List Value) (Qc : Array Value → State → Outcome → State → Prop) (fr : Nat → Prop) : Prop :=
  ∀ l : Launch, l.stackTraces = false → Met l (ev_mn μ) (ev_wm μ) (ct_rm d mc ms) (ct_Pc g Ex k a fs args) Qc mc ms fr
def ct_X (g : ev_G) (μ : ev_M) (a d mc ms : Nat) (Ex : Heap → Prop) (fr : Nat → Prop) (l : Launch) (p : Program) (R : Room) (s : State) (m : MethodId) (args : Array Value) (meth : Method) (c : Code) : Prop :=
  (p.tables.exec = Jvm.exec ∧ c.code = ev_by μ ∧ meth.sig.returnType = none ∧ c.maxLocals = ev_ml μ ∧ s.vm.findClass (ev_own μ) = some m.cls ∧ meth.locks = false ∧ c.exceptionTable.toList = [] ∧ l.stackTraces = false ∧ meth.name = "<init>") ∧
  ((∀ w ∈ ev_gw, w.before args s = true) ∧ ct_J g s s.heap ∧ ev_b g ≤ a ∧ s.heap.size = a + 1 ∧ Ex s.heap) ∧
  (d + 6 ≤ R.frames ∧ 30 * d + 300 ≤ R.locals ∧ mc ≤ R.cells ∧ ms ≤ R.slots) ∧ ∀ q, a ≤ q → fr q
/-- a frame of a constructor: the object at a with its fields, behind it what was made -/
def ct_E (g : ev_G) (μ : ev_M) (a k d mc ms : Nat) (Ex : Heap → Prop) (Qc : Array Value → State → Outcome → State → Prop) (fr : Nat → Prop) (pc : Nat) (L : List (Nat × Value)) (K fs : List Value) (tl : ct_T) (cells slots : Nat) : Prop :=
  ∀ (l : Launch) (p : Program) (e : Env) (R : Room) (s : State) (m : MethodId) (args : Array Value) (below : List Frame) (meth : Method) (c : Code) (H : Heap) (locs : List Loc) (ls : Array Slot),
    ct_X g μ a d mc ms Ex fr l p R s m args meth c → H.size = a + 1 + tl.length → va_at (ev_D g) ev_cl (a, .inr (k, fs)) H → ct_P g tl (a + 1) H → va_S (fun q => a ≤ q) s.heap H locs → lv_has ls (ev_ml μ) L →
    W p l e R s m args below meth c H locs cells slots (MQ below Qc args s mc ms fr) (F0 m pc ls K)
theorem ct_enter {g : ev_G} {μ : ev_M} {a k d mc ms : Nat} {Ex : Heap → Prop} {Qc : Array Value → State → Outcome → State → Prop} {fr : Nat → Prop} {args fs : List Value} {L : List (Nat × Value)} (hpn : plainName (ev_mn μ).cls = true) (how : (ev_mn μ).cls = ev_own μ) (hnm : (ev_mn μ).name = "<init>") (hhh : ev_hh μ = []) (hrt : ev_rt μ = none)
    (hL : lv_args 0 (.ref a :: args) = L) (hlen : (lg_sl (.ref a :: args)).length ≤ ev_ml μ) (hfr : ∀ q, a ≤ q → fr q) (h : ct_E g μ a k d mc ms Ex Qc fr 0 L [] fs [] 0 0) : ct_Met g μ k a d mc ms Ex fs args Qc fr := by
  intro l hst
  refine Met.ofW (cc := ev_by μ) (maxL := ev_ml μ) (ret := none) (ws' := ev_gw) hpn (by rw [ev_wm_nil hhh, hrt]) ?_
  intro p e s m as below meth c s₁ Bd hml hv
  obtain ⟨rfl, hb, hz, ho, hJ, hEx⟩ := hv
  have hts := atoms_spec (ws := ev_wm μ) Bd.pre
  have hown : s.vm.findClass (ev_own μ) = some m.cls := by rw [← how]; exact findClass_of_methodNamed Bd.named
  have htab : c.exceptionTable.toList = [] := by
    obtain ⟨meth9, c9, h1, h2, -, -, -, -, h7, -⟩ := Cond.code_spec Bd.named (hts (Cond.code (ev_mn μ) (ev_by μ) (ev_ml μ) (ev_rt μ)) (by rw [ev_wm_nil hhh]; exact List.mem_cons_self))
    cases Option.some.inj (h1.symm.trans Bd.method)
    cases Option.some.inj (h2.symm.trans (Stand.of_body Bd).code)
    rw [Array.isEmpty_iff.mp h7]
  have hle := lv_entry (.ref a :: args) hlen
  rw [hL] at hle
  rw [lg_entry_eq]
  refine h l p e _ s m _ below meth c s.heap [] _ ⟨⟨Bd.exec, Bd.bytes, Bd.returns, hml, hown, Bd.notSynchronized, htab, hst, ((name_of_methodNamed Bd.named Bd.method).1).trans hnm⟩, ⟨fun w hw => hts w (by rw [ev_wm_nil hhh]; exact List.mem_cons_of_mem _ hw), hJ, hb, hz, hEx⟩, ⟨Nat.le_refl _, Nat.le_refl _, Nat.le_refl _, Nat.le_refl _⟩, hfr⟩ hz ho ct_P.nil va_S.rf hle
section CtRows
variable {g : ev_G} {μ : ev_M} {a k d mc ms : Nat} {Ex : Heap → Prop} {Qc : Array Value → State → Outcome → State → Prop} {fr : Nat → Prop} {pc : Nat} {L0 L : List (Nat × Value)} {K fs : List Value} {tl : ct_T} {cells slots : Nat}
theorem ct_aload0 (h : decode (ev_by μ) pc = .ok (.aload_n 0, 1)) (kk : ct_E g μ a k d mc ms Ex Qc fr (pc + 1) ((0, .ref a) :: L0) (.ref a :: K) fs tl cells slots) : ct_E g μ a k d mc ms Ex Qc fr pc ((0, .ref a) :: L0) K fs tl cells slots := by
  intro l p e R s m args below meth c H locs ls X z o t S hl
  exact lv_aload_n X.1.1 X.1.2.1 h rfl (lv_at hl 0 rfl) (kk l p e R s m args below meth c H locs ls X z o t S hl)
theorem ct_iload1 {x : Int32} {b : Value} (h : decode (ev_by μ) pc = .ok (.iload_n 1, 1)) (kk : ct_E g μ a k d mc ms Ex Qc fr (pc + 1) ((0, b) :: (1, .int x) :: L0) (.int x :: K) fs tl cells slots) : ct_E g μ a k d mc ms Ex Qc fr pc ((0, b) :: (1, .int x) :: L0) K fs tl cells slots := by
  intro l p e R s m args below meth c H locs ls X z o t S hl
  exact lv_iload_n X.1.1 X.1.2.1 h rfl (lv_at hl 1 rfl) (kk l p e R s m args below meth c H locs ls X z o t S hl)
theorem ct_iconst {n : Int} (x : Int32) (h : decode (ev_by μ) pc = .ok (.iconst n, 1)) (hv : Int32.ofInt n = x) (kk : ct_E g μ a k d mc ms Ex Qc fr (pc + 1) L (.int x :: K) fs tl cells slots) : ct_E g μ a k d mc ms Ex Qc fr pc L K fs tl cells slots := by
  intro l p e R s m args below meth c H locs ls X z o t S hl
  exact lv_iconst X.1.1 X.1.2.1 h hv (kk l p e R s m args below meth c H locs ls X z o t S hl)
theorem ct_bipush {n : Int} (x : Int32) (h : decode (ev_by μ) pc = .ok (.bipush n, 2)) (hv : (Int8.ofInt n).toInt32 = x) (kk : ct_E g μ a k d mc ms Ex Qc fr (pc + 2) L (.int x :: K) fs tl cells slots) : ct_E g μ a k d mc ms Ex Qc fr pc L K fs tl cells slots := by
  intro l p e R s m args below meth c H locs ls X z o t S hl
  exact lv_bipush X.1.1 X.1.2.1 h hv (kk l p e R s m args below meth c H locs ls X z o t S hl)
theorem ct_sipush {n : Int} (x : Int32) (h : decode (ev_by μ) pc = .ok (.sipush n, 3)) (hv : (Int16.ofInt n).toInt32 = x) (kk : ct_E g μ a k d mc ms Ex Qc fr (pc + 3) L (.int x :: K) fs tl cells slots) : ct_E g μ a k d mc ms Ex Qc fr pc L K fs tl cells slots := by
  intro l p e R s m args below meth c H locs ls X z o t S hl
  exact lv_sipush X.1.1 X.1.2.1 h hv (kk l p e R s m args below meth c H locs ls X z o t S hl)
/-- Object's own constructor -/
theorem ct_super {idx : Nat} (h : decode (ev_by μ) pc = .ok (.invokespecial idx, 3)) (w1 : Cond.methodLink (ev_own μ) idx objectInit ∈ ev_gw) (w2 : Cond.instanceMethod objectInit ∈ ev_gw) (w3 : Cond.code objectInit ⟨#[0xb1]⟩ 1 none ∈ ev_gw) (kk : ct_E g μ a k d mc ms Ex Qc fr (pc + 3) L [] fs tl cells slots) : ct_E g μ a k d mc ms Ex Qc fr pc L [.ref a] fs tl cells slots := by
  intro l p e R s m args below meth c H locs ls X z o t S hl
  refine W.objInit X.1.1 X.1.2.1 X.1.2.2.2.2.1 (X.2.1.1 _ w1) (X.2.1.1 _ w2) (X.2.1.1 _ w3) rfl (hl.1.trans X.1.2.2.2.1.symm) rfl h ?_ ?_ (kk l p e R s m args below meth c H locs ls X z o t S hl)
  · have := X.2.2.1.1; omega
  · refine Nat.le_trans (Nat.add_le_add_right (lv_room (st := []) (Nat.zero_le _)) 12) ?_
    have := X.2.2.1.2.1; omega
/-- a row of ints -/
theorem ct_newarr (n j : Nat) {x : Int32} (h : decode (ev_by μ) pc = .ok (.newarray .int, 2)) (w1 : Cond.arrayClass .int ∈ ev_gw) (hx : x.toNatClampNeg = n) (hx0 : ¬ x < 0) (hb : n * 4 ≤ 536870912) (hj : tl.length + 1 = j) (hc : cells + 1 ≤ mc) (hs : slots + n ≤ ms)
    (kk : ct_E g μ a k d mc ms Ex Qc fr (pc + 2) L (.ref (a + j) :: K) fs (tl ++ [((19, n), [])]) (cells + 1) (slots + n)) : ct_E g μ a k d mc ms Ex Qc fr pc L (.int x :: K) fs tl cells slots := by
  intro l p e R s m args below meth c H locs ls X z o t S hl
  refine va_newaK (atype := .int) X.1.1 X.1.2.1 (X.2.1.1 _ w1) (g := F0 m pc ls (.int x :: K)) rfl h rfl hx0 hx hb (Nat.le_trans hc X.2.2.1.2.2.1) (Nat.le_trans hs X.2.2.1.2.2.2) z fun H1 cA e1 z1 o1 hAr hNm => ?_
  have hK := (X.2.1.2.1.1.2 0 (ev_cI g, .int) rfl).2
  have hcA : cA = ev_cI g := Option.some.inj (hNm.symm.trans hK)
  subst hcA
  have hq : a + 1 + tl.length = a + j := by omega
  have hnew : va_at (ev_D g) ev_cl (a + 1 + tl.length, ct_en g ((19, n), []) (a + 1 + tl.length)) H1 := e1
  rw [hq] at hnew z1 o1 ⊢
  have hsz : s.heap.size = a + 1 := X.2.1.2.2.2.1
  refine kk l p e R s m args below meth c H1 locs ls X (by rw [z1, List.length_append, List.length_singleton]; omega) (o.kept (o1 _ (by show a < a + j; omega))) ((t.kept (fun q h1 h2 => o1 q (by omega))).app (ct_P.cons hnew ct_P.nil) (by omega)) ⟨Nat.le_trans S.1 (by omega), fun q h1 h2 => (o1 q (by omega)).trans (S.2.1 q h1 h2), S.2.2⟩ hl
/-- a row of booleans -/
theorem ct_newarrZ (n j : Nat) {x : Int32} (h : decode (ev_by μ) pc = .ok (.newarray .boolean, 2)) (w1 : Cond.arrayClass .boolean ∈ ev_gw) (hx : x.toNatClampNeg = n) (hx0 : ¬ x < 0) (hb : n * 1 ≤ 536870912) (hj : tl.length + 1 = j) (hc : cells + 1 ≤ mc) (hs : slots + n ≤ ms)
    (kk : ct_E g μ a k d mc ms Ex Qc fr (pc + 2) L (.ref (a + j) :: K) fs (tl ++ [((20, n), [])]) (cells + 1) (slots + n)) : ct_E g μ a k d mc ms Ex Qc fr pc L (.int x :: K) fs tl cells slots := by
  intro l p e R s m args below meth c H locs ls X z o t S hl
  refine va_newaK (atype := .boolean) X.1.1 X.1.2.1 (X.2.1.1 _ w1) (g := F0 m pc ls (.int x :: K)) rfl h rfl hx0 hx hb (Nat.le_trans hc X.2.2.1.2.2.1) (Nat.le_trans hs X.2.2.1.2.2.2) z fun H1 cA e1 z1 o1 hAr hNm => ?_
  have hK := (X.2.1.2.1.1.2 1 (ev_cZ g, .boolean) rfl).2
  have hcA : cA = ev_cZ g := Option.some.inj (hNm.symm.trans hK)
  subst hcA
  have hq : a + 1 + tl.length = a + j := by omega
  have hnew : va_at (ev_D g) ev_cl (a + 1 + tl.length, ct_en g ((20, n), []) (a + 1 + tl.length)) H1 := e1
  rw [hq] at hnew z1 o1 ⊢
  have hsz : s.heap.size = a + 1 := X.2.1.2.2.2.1
  refine kk l p e R s m args below meth c H1 locs ls X (by rw [z1, List.length_append, List.length_singleton]; omega) (o.kept (o1 _ (by show a < a + j; omega))) ((t.kept (fun q h1 h2 => o1 q (by omega))).app (ct_P.cons hnew ct_P.nil) (by omega)) ⟨Nat.le_trans S.1 (by omega), fun q h1 h2 => (o1 q (by omega)).trans (S.2.1 q h1 h2), S.2.2⟩ hl
/-- a final field of the object -/
theorem ct_putFW {C : String} {T : u_T} {N : Nat} (i : Nat) {index : Nat} {v : Value} (ty0 : Nat → FieldType) (fs' : List Value) (h : decode (ev_by μ) pc = .ok (.putfield index, 3)) (hc : ev_cl[k]? = some (C, T, N)) (hin : ∀ w ∈ u_ws C T N, w ∈ ev_gw) (hty : ∀ k, k < N → parseFieldDescriptor (T k).2.2.1 = some (ty0 k)) (hnm : ∀ a, a < N → ∀ b, b < N → a ≠ b → (T a).2.1 ≠ (T b).2.1) (hi : i < N)
    (hlink : Cond.fieldLink (ev_own μ) index (T i).1 (T i).2.1 (T i).2.2.1 ∈ ev_gw) (hfin : (T i).2.2.2 = true) (hdecl : (T i).1 = ev_own μ) (hn : narrow (ty0 i) v = v) (hfit : fits (ty0 i) v = true) (hl9 : i < fs.length) (hfs : fs.set i v = fs')
    {l : Launch} {p : Program} {e : Env} {R : Room} {s : State} {m : MethodId} {args : Array Value} {below : List Frame} {meth : Method} {c : Code} {H : Heap} {locs : List Loc} {ls : Array Slot} {Q : State → Prop}
    (X : ct_X g μ a d mc ms Ex fr l p R s m args meth c) (o : va_at (ev_D g) ev_cl (a, .inr (k, fs)) H) (S : va_S (fun q => a ≤ q) s.heap H locs)
    (kk : ∀ (H1 : Heap) (locs1 : List Loc), H1.size = H.size → (∀ q : Nat, q ≠ a → H1[q]? = H[q]?) → va_at (ev_D g) ev_cl (a, .inr (k, fs')) H1 → va_S (fun q => a ≤ q) s.heap H1 locs1 → W p l e R s m args below meth c H1 locs1 cells slots Q (F0 m (pc + 3) ls K)) : W p l e R s m args below meth c H locs cells slots Q (F0 m pc ls (v :: .ref a :: K)) := by
  subst hfs
  have hts := X.2.1.1
  have hK : va_K (ev_D g) ev_cl (ev_ty g) s := X.2.1.2.1.1
  have hown := X.1.2.2.2.2.1
  have hap := va_apart (own := ev_own μ) hts hin ty0 hty hnm hK hc
  obtain ⟨r, h1, cell, q1, q2, q3, q4⟩ := o
  have hr : r = (C, T, N) := Option.some.inj (h1.symm.trans hc)
  subst hr
  obtain ⟨hS, hfc, kC, hkC, hkind⟩ := hK.1 k _ hc
  obtain ⟨cf, kf, fi, f, hif, hsl⟩ := hS i hi
  have hlay := hts _ (hin _ (u_in_lay hi))
  unfold u_lay at hlay
  rw [if_pos hfin] at hlay
  have hst := (u_facts hfc hkC (u_lays hts hin hi) hif).1
  have hcf : m.cls = cf := by
    obtain ⟨_, _, c', _, _, _, -, -, hf', -, -, -, hown2, -⟩ := Cond.laysFinal_spec hlay
    have e1 : c' = cf := by have := hif.symm.trans hf'; simp at this; exact this.1.symm
    rw [hdecl] at hown2
    rw [← e1]; exact Option.some.inj (hown.symm.trans hown2)
  have h6 := u_fits hfc hkC hkind (Or.inr hlay) hif (hty i hi) hn hfit
  refine W.putFinK X.1.1 X.1.2.1 hown (hts _ hlink) hif hst hcf X.1.2.2.2.2.2.2.2.2 (by rw [q2]; exact h6) q1 q3 (by rw [hsl]; exact k2_hasslot (q4 i hi)) rfl rfl h fun H' e1 e2 e3 => ?_
  rw [hsl] at e1 ⊢
  exact kk H' _ e2 e3 ⟨_, hc, t_OB.to (V := updV (vp_V fs) i v) ⟨_, e1, q2, q3, t_set q4 hap hi v⟩ (fun j _ => vp_updV_set hl9 v j)⟩ (S.put e2 e3 (Nat.le_refl a))
theorem ct_putF {C : String} {T : u_T} {N : Nat} (i : Nat) {index : Nat} {v : Value} (ty0 : Nat → FieldType) (fs' : List Value) (h : decode (ev_by μ) pc = .ok (.putfield index, 3)) (hc : ev_cl[k]? = some (C, T, N)) (hin : ∀ w ∈ u_ws C T N, w ∈ ev_gw) (hty : ∀ k, k < N → parseFieldDescriptor (T k).2.2.1 = some (ty0 k)) (hnm : ∀ a, a < N → ∀ b, b < N → a ≠ b → (T a).2.1 ≠ (T b).2.1) (hi : i < N)
    (hlink : Cond.fieldLink (ev_own μ) index (T i).1 (T i).2.1 (T i).2.2.1 ∈ ev_gw) (hfin : (T i).2.2.2 = true) (hdecl : (T i).1 = ev_own μ) (hn : narrow (ty0 i) v = v) (hfit : fits (ty0 i) v = true) (hl9 : i < fs.length) (hfs : fs.set i v = fs')
    (kk : ct_E g μ a k d mc ms Ex Qc fr (pc + 3) L K fs' tl cells slots) : ct_E g μ a k d mc ms Ex Qc fr pc L (v :: .ref a :: K) fs tl cells slots := by
  intro l p e R s m args below meth c H locs ls X z o t S hl
  exact ct_putFW i ty0 fs' h hc hin hty hnm hi hlink hfin hdecl hn hfit hl9 hfs X o S (fun H1 locs1 e2 e3 o1 S1 => kk l p e R s m args below meth c H1 locs1 ls X (e2.trans z) o1 (t.kept (fun q h1 _ => e3 q (Nat.ne_of_gt h1))) S1 hl)
/-- another field of the object -/
theorem ct_putI {C : String} {T : u_T} {N : Nat} (i : Nat) {index : Nat} {v : Value} (ty0 : Nat → FieldType) (fs' : List Value) (h : decode (ev_by μ) pc = .ok (.putfield index, 3)) (hc : ev_cl[k]? = some (C, T, N)) (hin : ∀ w ∈ u_ws C T N, w ∈ ev_gw) (hty : ∀ k, k < N → parseFieldDescriptor (T k).2.2.1 = some (ty0 k)) (hnm : ∀ a, a < N → ∀ b, b < N → a ≠ b → (T a).2.1 ≠ (T b).2.1) (hi : i < N)
    (hlink : Cond.fieldLink (ev_own μ) index (T i).1 (T i).2.1 (T i).2.2.1 ∈ ev_gw) (hfin : (T i).2.2.2 = false) (hn : narrow (ty0 i) v = v) (hfit : fits (ty0 i) v = true) (hl9 : i < fs.length) (hfs : fs.set i v = fs')
    (kk : ct_E g μ a k d mc ms Ex Qc fr (pc + 3) L K fs' tl cells slots) : ct_E g μ a k d mc ms Ex Qc fr pc L (v :: .ref a :: K) fs tl cells slots := by
  intro l p e R s m args below meth c H locs ls X z o t S hl
  subst hfs
  have hts := X.2.1.1
  have hK : va_K (ev_D g) ev_cl (ev_ty g) s := X.2.1.2.1.1
  have hown := X.1.2.2.2.2.1
  have hap := va_apart (own := ev_own μ) hts hin ty0 hty hnm hK hc
  obtain ⟨r, h1, cell, q1, q2, q3, q4⟩ := o
  have hr : r = (C, T, N) := Option.some.inj (h1.symm.trans hc)
  subst hr
  obtain ⟨hS, hfc, kC, hkC, hkind⟩ := hK.1 k _ hc
  obtain ⟨cf, kf, fi, f, hif, hsl⟩ := hS i hi
  have hlay := hts _ (hin _ (u_in_lay hi))
  unfold u_lay at hlay
  rw [if_neg (by rw [hfin]; decide)] at hlay
  have hst := (u_facts hfc hkC (u_lays hts hin hi) hif).1
  have h6 := u_store hfc hkC hkind hlay hif (hty i hi) hn hfit
  refine W.putK X.1.1 X.1.2.1 (f := f) ⟨hown, hts _ hlink, ⟨_, _, _, hif⟩, hst⟩ (by rw [q2]; exact h6) q1 q3 (by rw [hsl]; exact k2_hasslot (q4 i hi)) rfl rfl h fun H' e1 e2 e3 => ?_
  rw [hsl] at e1 ⊢
  exact kk l p e R s m args below meth c H' _ ls X (e2.trans z) ⟨_, hc, t_OB.to (V := updV (vp_V fs) i v) ⟨_, e1, q2, q3, t_set q4 hap hi v⟩ (fun j _ => vp_updV_set hl9 v j)⟩ (t.kept (fun q h1 _ => e3 q (Nat.ne_of_gt h1))) (S.put e2 e3 (Nat.le_refl a)) hl
/-- the end -/
theorem ct_ret (row : List Int32) (tl9 : ct_T) (h : decode (ev_by μ) pc = .ok (.return_, 1)) (hrow : fs = ev_fs k (ct_r row) (fun _ => none) a) (hk : k < 16) (hc : cells ≤ mc) (hs : slots ≤ ms) (htl : ((k, 0), row) :: tl = tl9) : ct_E g μ a k d mc ms Ex (ct_Qc g tl9 a) fr pc L [] fs tl cells slots := by
  intro l p e R s m args below meth c H locs ls X z o t S hl
  subst htl
  refine W.widen (k := mc) (n := ms) hc hs ?_
  refine W.vret (Qc := ct_Qc g (((k, 0), row) :: tl) a) X.1.1 X.1.2.1 X.1.2.2.1 (fun u hu hW => ⟨rfl, ?_, ?_, S.F hu⟩) (fun q hq => X.2.2.2 _ (S.2.2 q hq)) h X.1.2.2.2.2.2.1
  · rw [hu, z, List.length_cons]; omega
  · rw [hu]
    refine ct_P.cons ?_ t
    rw [ct_en, ev_en, if_pos hk, ← hrow]
    exact o
end CtRows
/-- what follows a call that returns -/
theorem ct_cont {p : Program} {l : Launch} {e : Env} {R : Room} {s : State} {m : MethodId} {args : Array Value} {below : List Frame} {meth : Method} {c : Code} {H : Heap} {locs : List Loc} {cells slots mc ms pc : Nat} {ls : Array Slot} {st0 rest : List Value} {Qa : State → Outcome → State → Prop} {free : Nat → Prop} {Q : State → Prop}
    (hr : va_Run p l e R s m args below meth c H locs cells slots mc ms (F0 m pc ls st0) rest Qa free)
    (kk : ∀ (v : Option Value) (st₀ t T' : State) (Ls : List Loc), st₀.heap = H → T'.heap = t.heap → (∀ q ∈ Ls, free q.base) → T'.heap.size ≤ s.heap.size + (cells + mc) → Qa st₀ (.returned v) t → W p l e R s m args below meth c T'.heap (locs ++ Ls) (cells + mc) (slots + ms) Q (F0 m (pc + 3) ls (v.toList ++ rest))) : W p l e R s m args below meth c H locs cells slots Q (F0 m pc ls st0) := by
  intro T hT Y
  obtain ⟨v, st₀, t, T', Ls, h0, Y', hL, e1, e2, hq, st⟩ := hr T hT Y
  obtain ⟨t2, a1, b1⟩ := kk v st₀ t T' Ls h0 e1 hL Y'.same.2.2.1 hq T' rfl Y'
  exact ⟨t2, st t2 a1, b1⟩
/-! ===== constructors: a constructor is called ===== -/
/-- what a caller must know of a constructor -/
def ct_Mi (μ' : ev_M) (n : Nat) : Prop := ev_hh μ' = [] ∧ ev_rt μ' = none ∧ (ev_mn μ').name = "<init>" ∧ Cond.initialized (ev_mn μ').cls ∈ ev_gw ∧ Cond.instanceMethod (ev_mn μ') ∈ ev_gw ∧ ev_cd μ' ∈ ev_gw ∧
  ((ev_mn μ').cls ≠ "java/lang/invoke/MethodHandle" ∧ (ev_mn μ').cls ≠ "java/lang/invoke/VarHandle" ∧ (parseMethodDescriptor (ev_mn μ').desc).map (fun d => d.parameters.length) = some n) ∧ ev_ml μ' ≤ 11
theorem ct_run {p : Program} {l : Launch} {e : Env} {R : Room} {s : State} {m : MethodId} {args : Array Value} {below : List Frame} {meth : Method} {c : Code} {H : Heap} {locs : List Loc} {cells slots : Nat} {ls : Array Slot}
    {g : ev_G} {μ' : ev_M} {own : String} {cc : ByteArray} {nL n : Nat} (I : ct_Mi μ' n) (k' q d' mc' ms' ic pc : Nat) (fs0 As rest : List Value) {Ex' : Heap → Prop} {Qc' : Array Value → State → Outcome → State → Prop} {fr' : Nat → Prop}
    (hx : p.tables.exec = Jvm.exec) (hb : c.code = cc) (hml : c.maxLocals = nL) (hsz : ls.size = nL) (hown : s.vm.findClass own = some m.cls) (hts : ∀ w ∈ ev_gw, w.before args s = true) (hJ : ct_J g s s.heap) (hst : l.stackTraces = false)
    (hS : va_S (ev_A g) s.heap H locs) (hbq : ev_b g ≤ q) (hz : H.size = q + 1) (ho : va_at (ev_D g) ev_cl (q, .inr (k', fs0)) H)
    (hEx : Ex' H) (hM : ct_Met g μ' k' q d' mc' ms' Ex' fs0 As Qc' fr') (hlk : (∃ host, (own, (ic, (ev_mn μ', host))) ∈ ev_ne) ∨ Cond.methodLink own ic (ev_mn μ') ∈ ev_gw) (hn : As.length = n)
    (hR : d' + 7 ≤ R.frames ∧ 30 * d' + 330 ≤ R.locals) (hcat : (rest.map fun v => v.category).sum ≤ 8) (hdg : decode cc pc = .ok (.invokespecial ic, 3)) (hf : cells + mc' ≤ R.cells ∧ slots + ms' ≤ R.slots) :
    va_Run p l e R s m args below meth c H locs cells slots mc' ms' (F0 m pc ls (As.reverse ++ .ref q :: rest)) rest (Qc' (Value.ref q :: As).toArray) fr' := by
  obtain ⟨hhh, hrt, hnm, w3, w4, w5, hd, hml'⟩ := I
  have hg := ev_good w5
  have hwm : ev_wm μ' = Cond.code (ev_mn μ') (ev_by μ') (ev_ml μ') none :: ev_gw := by rw [ev_wm_nil hhh, hrt]
  have hp : PreS s H (ct_Pc g Ex' k' q fs0 As) (.ref q :: As) := ⟨ct_blind, fun U hU hW => ⟨rfl, hbq, by rw [hU]; exact hz, by rw [hU]; exact ho, by rw [hU]; exact hJ.next hW hS, by rw [hU]; exact hEx⟩⟩
  have hRR : (ct_rm d' mc' ms').frames + 1 ≤ R.frames ∧ 8 + (ev_ml μ' + 11) + (ct_rm d' mc' ms').locals ≤ R.locals := ⟨by show d' + 6 + 1 ≤ R.frames; omega, by show 8 + (ev_ml μ' + 11) + (30 * d' + 300) ≤ R.locals; omega⟩
  rcases hlk with ⟨host, hl⟩ | hl
  · exact va_runIN (nL := nL) (n := n) (host := host) (bytes := ev_by μ') (maxL := ev_ml μ') ⟨hx, hb, hml, hown, hts⟩ (hM l hst) ⟨va_cnB n hts hg hwm rfl rfl (hJ.2.1.1.1 _ hl) (hts _ w3) hd hRR, hnm, hts _ w4⟩ hp rfl hn hsz rfl (lv_room hcat) hdg hf
  · exact va_runI (nL := nL) (n := n) (bytes := ev_by μ') (maxL := ev_ml μ') ⟨hx, hb, hml, hown, hts⟩ (hM l hst) (cwI n hts hg hwm rfl rfl (hts _ w3) (hts _ hl) (hts _ w4) hnm hd hRR) hp rfl hn hsz rfl (lv_room hcat) hdg hf
section CtChild
variable {g : ev_G} {μ : ev_M} {a k d mc ms : Nat} {Ex : Heap → Prop} {Qc : Array Value → State → Outcome → State → Prop} {fr : Nat → Prop} {pc : Nat} {L0 L : List (Nat × Value)} {K fs : List Value} {tl : ct_T} {cells slots : Nat}
/-- new C() -/
theorem ct_child0 {μ' : ev_M} (I : ct_Mi μ' 0) {C : String} {T : u_T} {N ik ic : Nat} (k' d' mc' ms' j : Nat) (fs0 : List Value) (tl' : ct_T) (ty0 : Nat → FieldType)
    (d0 : decode (ev_by μ) pc = .ok (.new ik, 3)) (d3 : decode (ev_by μ) (pc + 3) = .ok (.dup, 1)) (d4 : decode (ev_by μ) (pc + 4) = .ok (.invokespecial ic, 3))
    (hcl : ev_cl[k']? = some (C, T, N)) (hin : ∀ w ∈ u_ws C T N, w ∈ ev_gw) (hty : ∀ k, k < N → parseFieldDescriptor (T k).2.2.1 = some (ty0 k)) (hfs : ∀ j, j < N → defaultValue (ty0 j) = vp_V fs0 j)
    (w1 : Cond.classLink (ev_own μ) ik C ∈ ev_gw) (w2 : Cond.instantiable C N ∈ ev_gw) (w3 : Cond.initialized C ∈ ev_gw) (hlk : (∃ host, (ev_own μ, (ic, (ev_mn μ', host))) ∈ ev_ne) ∨ Cond.methodLink (ev_own μ) ic (ev_mn μ') ∈ ev_gw)
    (hM : ∀ q, ct_Met g μ' k' q d' mc' ms' (fun _ => True) fs0 [] (ct_Qc g tl' q) (fun x => q ≤ x)) (hj : tl.length + 1 = j) (hdd : d' + 1 ≤ d) (hcat : (K.map fun v => v.category).sum ≤ 7) (hlen : tl'.length = mc' + 1) (hc : cells + 1 + mc' ≤ mc) (hs : slots + N + ms' ≤ ms)
    (kk : ct_E g μ a k d mc ms Ex Qc fr (pc + 7) L (.ref (a + j) :: K) fs (tl ++ tl') (cells + 1 + mc') (slots + N + ms')) : ct_E g μ a k d mc ms Ex Qc fr pc L K fs tl cells slots := by
  intro l p e R s m args below meth c H locs ls X z o t S hl
  have hJ := X.2.1.2.1
  have hKn := hJ.1.1 k' _ hcl
  have hsz : s.heap.size = a + 1 := X.2.1.2.2.2.1
  have hab : ev_b g ≤ a := X.2.1.2.2.1
  have hR := X.2.2.1
  refine W.newcK X.1.1 X.1.2.1 X.1.2.2.2.2.1 (X.2.1.1 _ w1) (X.2.1.1 _ w2) (X.2.1.1 _ w3) (g := F0 m pc ls K) rfl d0 (by omega) (by omega) hKn.2.1 z fun H1 kC hkC e1 z1 o1 => ?_
  have hnew : va_at (ev_D g) ev_cl (a + 1 + tl.length, .inr (k', fs0)) H1 := ⟨_, hcl, (u_born ty0 X.2.1.1 hin hKn hkC e1 hty).to hfs⟩
  have hq : a + 1 + tl.length = a + j := by omega
  rw [hq] at hnew z1 o1 ⊢
  have S1 : va_S (fun q => a ≤ q) s.heap H1 locs := ⟨Nat.le_trans S.1 (by omega), fun q h1 h2 => (o1 q (by omega)).trans (S.2.1 q h1 h2), S.2.2⟩
  refine lv_dup X.1.1 X.1.2.1 d3 rfl ?_
  refine ct_cont (ct_run I k' (a + j) d' mc' ms' ic (pc + 4) fs0 [] (.ref (a + j) :: K) X.1.1 X.1.2.1 X.1.2.2.2.1 hl.1 X.1.2.2.2.2.1 X.2.1.1 hJ X.1.2.2.2.2.2.2.2.1 (ct_S hab S1) (by omega) z1 hnew trivial (hM (a + j)) hlk rfl ⟨by omega, by omega⟩ (by show 1 + (K.map fun v => v.category).sum ≤ 8; omega) d4 ⟨by omega, by omega⟩) fun v st₀ u T' Ls h0 e9 hLs _ hQ => ?_
  obtain ⟨hv, hsz2, hP2, hF⟩ := hQ
  have hv : v = none := by injection hv
  subst hv
  have keep : ∀ q, q < a + j → T'.heap[q]? = H[q]? := fun q hq => by
    rw [e9, hF.2 q (by rw [h0, z1]; omega) (Nat.not_le.mpr hq), h0]
    exact o1 q hq
  rw [← e9] at hsz2 hP2
  exact kk l p e R s m args below meth c T'.heap (locs ++ Ls) ls X (by rw [hsz2, List.length_append]; omega) (o.kept (keep _ (by show a < a + j; omega))) ((t.kept (fun q h1 h2 => keep q (by omega))).app hP2 (by omega))
    ⟨by rw [hsz2]; omega, fun q h1 h2 => (keep q (by omega)).trans (S.2.1 q h1 h2), fun q hq => (List.mem_append.mp hq).elim (S.2.2 q) (fun h => Nat.le_trans (Nat.le_add_right a j) (hLs q h))⟩ hl
/-- new C(x), x a constant -/
theorem ct_child1 {μ' : ev_M} (I : ct_Mi μ' 1) {C : String} {T : u_T} {N ik ic : Nat} {n : Int} (x : Int32) (k' d' mc' ms' j : Nat) (fs0 : List Value) (tl' : ct_T) (ty0 : Nat → FieldType)
    (d0 : decode (ev_by μ) pc = .ok (.new ik, 3)) (d3 : decode (ev_by μ) (pc + 3) = .ok (.dup, 1)) (d4 : decode (ev_by μ) (pc + 4) = .ok (.iconst n, 1)) (d5 : decode (ev_by μ) (pc + 5) = .ok (.invokespecial ic, 3)) (hx : Int32.ofInt n = x)
    (hcl : ev_cl[k']? = some (C, T, N)) (hin : ∀ w ∈ u_ws C T N, w ∈ ev_gw) (hty : ∀ k, k < N → parseFieldDescriptor (T k).2.2.1 = some (ty0 k)) (hfs : ∀ j, j < N → defaultValue (ty0 j) = vp_V fs0 j)
    (w1 : Cond.classLink (ev_own μ) ik C ∈ ev_gw) (w2 : Cond.instantiable C N ∈ ev_gw) (w3 : Cond.initialized C ∈ ev_gw) (hlk : (∃ host, (ev_own μ, (ic, (ev_mn μ', host))) ∈ ev_ne) ∨ Cond.methodLink (ev_own μ) ic (ev_mn μ') ∈ ev_gw)
    (hM : ∀ q, ct_Met g μ' k' q d' mc' ms' (fun _ => True) fs0 [.int x] (ct_Qc g tl' q) (fun x => q ≤ x)) (hj : tl.length + 1 = j) (hdd : d' + 1 ≤ d) (hcat : (K.map fun v => v.category).sum ≤ 7) (hlen : tl'.length = mc' + 1) (hc : cells + 1 + mc' ≤ mc) (hs : slots + N + ms' ≤ ms)
    (kk : ct_E g μ a k d mc ms Ex Qc fr (pc + 8) L (.ref (a + j) :: K) fs (tl ++ tl') (cells + 1 + mc') (slots + N + ms')) : ct_E g μ a k d mc ms Ex Qc fr pc L K fs tl cells slots := by
  intro l p e R s m args below meth c H locs ls X z o t S hl
  have hJ := X.2.1.2.1
  have hKn := hJ.1.1 k' _ hcl
  have hsz : s.heap.size = a + 1 := X.2.1.2.2.2.1
  have hab : ev_b g ≤ a := X.2.1.2.2.1
  have hR := X.2.2.1
  refine W.newcK X.1.1 X.1.2.1 X.1.2.2.2.2.1 (X.2.1.1 _ w1) (X.2.1.1 _ w2) (X.2.1.1 _ w3) (g := F0 m pc ls K) rfl d0 (by omega) (by omega) hKn.2.1 z fun H1 kC hkC e1 z1 o1 => ?_
  have hnew : va_at (ev_D g) ev_cl (a + 1 + tl.length, .inr (k', fs0)) H1 := ⟨_, hcl, (u_born ty0 X.2.1.1 hin hKn hkC e1 hty).to hfs⟩
  have hq : a + 1 + tl.length = a + j := by omega
  rw [hq] at hnew z1 o1 ⊢
  have S1 : va_S (fun q => a ≤ q) s.heap H1 locs := ⟨Nat.le_trans S.1 (by omega), fun q h1 h2 => (o1 q (by omega)).trans (S.2.1 q h1 h2), S.2.2⟩
  refine lv_dup X.1.1 X.1.2.1 d3 rfl ?_
  refine lv_iconst X.1.1 X.1.2.1 d4 hx ?_
  refine ct_cont (ct_run I k' (a + j) d' mc' ms' ic (pc + 5) fs0 [.int x] (.ref (a + j) :: K) X.1.1 X.1.2.1 X.1.2.2.2.1 hl.1 X.1.2.2.2.2.1 X.2.1.1 hJ X.1.2.2.2.2.2.2.2.1 (ct_S hab S1) (by omega) z1 hnew trivial (hM (a + j)) hlk rfl ⟨by omega, by omega⟩ (by show 1 + (K.map fun v => v.category).sum ≤ 8; omega) d5 ⟨by omega, by omega⟩) fun v st₀ u T' Ls h0 e9 hLs _ hQ => ?_
  obtain ⟨hv, hsz2, hP2, hF⟩ := hQ
  have hv : v = none := by injection hv
  subst hv
  have keep : ∀ q, q < a + j → T'.heap[q]? = H[q]? := fun q hq => by
    rw [e9, hF.2 q (by rw [h0, z1]; omega) (Nat.not_le.mpr hq), h0]
    exact o1 q hq
  rw [← e9] at hsz2 hP2
  exact kk l p e R s m args below meth c T'.heap (locs ++ Ls) ls X (by rw [hsz2, List.length_append]; omega) (o.kept (keep _ (by show a < a + j; omega))) ((t.kept (fun q h1 h2 => keep q (by omega))).app hP2 (by omega))
    ⟨by rw [hsz2]; omega, fun q h1 h2 => (keep q (by omega)).trans (S.2.1 q h1 h2), fun q hq => (List.mem_append.mp hq).elim (S.2.2 q) (fun h => Nat.le_trans (Nat.le_add_right a j) (hLs q h))⟩ hl
end CtChild
