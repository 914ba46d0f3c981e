/-! ===== rows: stores, stack, fields, rows of numbers ===== -/
section EvMem
variable {g : ev_G} {μ : ev_M} {d B pc : Nat} {L : List (Option ev_V)} {K : List ev_V} {S : ev_S} {Q : ev_O → ev_S → Prop}
theorem ev_X.fm {l : Launch} {p : Program} {R : Room} {s : State} {m : MethodId} {args : Array Value} {meth : Method} {c : Code} {H : Heap} {locs : List Loc} {cells slots mc ms : Nat} {Λ : ev_Y} (X : ev_X g μ d B S l p R s m args meth c H locs cells slots mc ms Λ) : (ev_fm g).category = 1 := X.2.1.2.2.1.2.2.2.2.2.2.2.1
theorem ev_istore_n {k : Fin 4} {x : Int32} (h : decode (ev_by μ) pc = .ok (.istore_n k, 1)) (hi : (k : Nat) < L.length) (hw : ∀ u, (k : Nat) ≠ 0 → L[(k : Nat) - 1]? = some (some u) → ev_w u = 1) (kk : ev_E g μ d B (pc + 1) (L.set k (some (ev_i x))) K S Q) : ev_E g μ d B pc L (ev_i x :: K) S Q := by
  intro l p e R s m args below meth c H locs cells slots mc ms Λ ls X hL hz hK
  refine lv_istore_n X.1.1 X.1.2.1 h rfl (ev_L_pairs hL) hi rfl (fun ls' h' => ?_)
  have h2 := ev_L_store (v := ev_i x) hL X.fm trivial hi hw h'
  exact kk l p e R s m args below meth c H locs cells slots mc ms Λ ls' X h2 (by rw [h2.1, List.length_set, ← hL.1]; exact hz) (fun v hv => hK v (List.mem_cons_of_mem _ hv))
theorem ev_istore {k : Nat} {x : Int32} (h : decode (ev_by μ) pc = .ok (.istore k, 2)) (hi : k < L.length) (hw : ∀ u, k ≠ 0 → L[k - 1]? = some (some u) → ev_w u = 1) (kk : ev_E g μ d B (pc + 2) (L.set k (some (ev_i x))) K S Q) : ev_E g μ d B pc L (ev_i x :: K) S Q := by
  intro l p e R s m args below meth c H locs cells slots mc ms Λ ls X hL hz hK
  refine lv_istore X.1.1 X.1.2.1 h (ev_L_pairs hL) hi rfl (fun ls' h' => ?_)
  have h2 := ev_L_store (v := ev_i x) hL X.fm trivial hi hw h'
  exact kk l p e R s m args below meth c H locs cells slots mc ms Λ ls' X h2 (by rw [h2.1, List.length_set, ← hL.1]; exact hz) (fun v hv => hK v (List.mem_cons_of_mem _ hv))
theorem ev_astore_n {k : Fin 4} {v : ev_V} (h : decode (ev_by μ) pc = .ok (.astore_n k, 1)) (hr : ev_isr v = true) (hi : (k : Nat) < L.length) (hw : ∀ u, (k : Nat) ≠ 0 → L[(k : Nat) - 1]? = some (some u) → ev_w u = 1) (kk : ev_E g μ d B (pc + 1) (L.set k (some v)) K S Q) : ev_E g μ d B pc L (v :: K) S Q := by
  intro l p e R s m args below meth c H locs cells slots mc ms Λ ls X hL hz hK
  obtain ⟨a, ha⟩ := ev_isr_ref (g := g) hr
  rw [List.map_cons, ha]
  refine lv_astore_n X.1.1 X.1.2.1 h rfl (ev_L_pairs hL) hi rfl (fun ls' h' => ?_)
  rw [← ha] at h'
  have h2 := ev_L_store (v := v) hL X.fm (hK v List.mem_cons_self) hi hw h'
  exact kk l p e R s m args below meth c H locs cells slots mc ms Λ ls' X h2 (by rw [h2.1, List.length_set, ← hL.1]; exact hz) (fun v hv => hK v (List.mem_cons_of_mem _ hv))
theorem ev_astore {k : Nat} {v : ev_V} (h : decode (ev_by μ) pc = .ok (.astore k, 2)) (hr : ev_isr v = true) (hi : k < L.length) (hw : ∀ u, k ≠ 0 → L[k - 1]? = some (some u) → ev_w u = 1) (kk : ev_E g μ d B (pc + 2) (L.set k (some v)) K S Q) : ev_E g μ d B pc L (v :: K) S Q := by
  intro l p e R s m args below meth c H locs cells slots mc ms Λ ls X hL hz hK
  obtain ⟨a, ha⟩ := ev_isr_ref (g := g) hr
  rw [List.map_cons, ha]
  refine lv_astore X.1.1 X.1.2.1 h (ev_L_pairs hL) hi rfl (fun ls' h' => ?_)
  rw [← ha] at h'
  have h2 := ev_L_store (v := v) hL X.fm (hK v List.mem_cons_self) hi hw h'
  exact kk l p e R s m args below meth c H locs cells slots mc ms Λ ls' X h2 (by rw [h2.1, List.length_set, ← hL.1]; exact hz) (fun v hv => hK v (List.mem_cons_of_mem _ hv))
theorem ev_dstore {k : Nat} {x : UInt64} (h : decode (ev_by μ) pc = .ok (.dstore k, 2)) (hi : k + 1 < L.length) (hw : ∀ u, k ≠ 0 → L[k - 1]? = some (some u) → ev_w u = 1) (kk : ev_E g μ d B (pc + 2) ((L.set k (some (ev_d x))).set (k + 1) none) K S Q) : ev_E g μ d B pc L (ev_d x :: K) S Q := by
  intro l p e R s m args below meth c H locs cells slots mc ms Λ ls X hL hz hK
  refine lv_dstore X.1.1 X.1.2.1 h (ev_L_pairs hL) hi rfl (fun ls' h' => ?_)
  have h2 := ev_L_dstore (v := ev_d x) hL X.fm trivial hi hw h'
  exact kk l p e R s m args below meth c H locs cells slots mc ms Λ ls' X h2 (by rw [h2.1, List.length_set, List.length_set, ← hL.1]; exact hz) (fun v hv => hK v (List.mem_cons_of_mem _ hv))
theorem ev_iinc {i : Nat} {n : Int} (x y : Int32) (h : decode (ev_by μ) pc = .ok (.iinc i n, 3)) (hl : L[i]? = some (some (ev_i x))) (hy : Int32.ofInt n = y) (hw : ∀ u, i ≠ 0 → L[i - 1]? = some (some u) → ev_w u = 1) (kk : ev_E g μ d B (pc + 3) (L.set i (some (ev_i (x + y)))) K S Q) : ev_E g μ d B pc L K S Q := by
  intro l p e R s m args below meth c H locs cells slots mc ms Λ ls X hL hz hK
  have hi : i < L.length := (List.getElem?_eq_some_iff.mp hl).1
  have hm : (i, ev_c g (ev_i x)) ∈ (List.range L.length).filterMap (fun k => (L[k]?.join).map (fun u => (k, ev_c g u))) := List.mem_filterMap.mpr ⟨i, List.mem_range.mpr hi, by rw [hl]; rfl⟩
  obtain ⟨k, hk⟩ := List.getElem?_of_mem hm
  refine lv_iinc (v := x + y) X.1.1 X.1.2.1 h (ev_L_pairs hL) hk (by rw [hy]) hi rfl (fun ls' h' => ?_)
  have h2 := ev_L_store (v := ev_i (x + y)) hL X.fm trivial hi hw h'
  exact kk l p e R s m args below meth c H locs cells slots mc ms Λ ls' X h2 (by rw [h2.1, List.length_set, ← hL.1]; exact hz) hK
theorem ev_pop {v : ev_V} (h : decode (ev_by μ) pc = .ok (.pop, 1)) (hv : ev_w v = 1) (kk : ev_E g μ d B (pc + 1) L K S Q) : ev_E g μ d B pc L (v :: K) S Q := by
  intro l p e R s m args below meth c H locs cells slots mc ms Λ ls X hL hz hK
  exact lv_pop X.1.1 X.1.2.1 h (by rw [ev_cat g v X.fm]; exact hv) (kk l p e R s m args below meth c H locs cells slots mc ms Λ ls X hL hz (fun v hv => hK v (List.mem_cons_of_mem _ hv)))
theorem ev_dup {v : ev_V} (h : decode (ev_by μ) pc = .ok (.dup, 1)) (hv : ev_w v = 1) (kk : ev_E g μ d B (pc + 1) L (v :: v :: K) S Q) : ev_E g μ d B pc L (v :: K) S Q := by
  intro l p e R s m args below meth c H locs cells slots mc ms Λ ls X hL hz hK
  exact lv_dup X.1.1 X.1.2.1 h (by rw [ev_cat g v X.fm]; exact hv) (kk l p e R s m args below meth c H locs cells slots mc ms Λ ls X hL hz (List.forall_mem_cons.mpr ⟨hK v List.mem_cons_self, hK⟩))
theorem ev_dup2 {v w : ev_V} (h : decode (ev_by μ) pc = .ok (.dup2, 1)) (hv : ev_w v = 1) (hw : ev_w w = 1) (kk : ev_E g μ d B (pc + 1) L (v :: w :: v :: w :: K) S Q) : ev_E g μ d B pc L (v :: w :: K) S Q := by
  intro l p e R s m args below meth c H locs cells slots mc ms Λ ls X hL hz hK
  exact lv_dup2_11 X.1.1 X.1.2.1 h (by rw [ev_cat g v X.fm]; exact hv) (by rw [ev_cat g w X.fm]; exact hw) (kk l p e R s m args below meth c H locs cells slots mc ms Λ ls X hL hz (List.forall_mem_cons.mpr ⟨hK v List.mem_cons_self, List.forall_mem_cons.mpr ⟨hK w (List.mem_cons_of_mem _ List.mem_cons_self), hK⟩⟩))
theorem ev_tableOut {dflt lo hi : Int} {offs : Array Int} {len : Nat} {x : Int32} (tgt : Nat) (h : decode (ev_by μ) pc = .ok (.tableswitch dflt lo hi offs, len)) (hx : x.toInt < lo ∨ hi < x.toInt) (ht : (pc : Int) + dflt = (tgt : Int)) (kk : ev_E g μ d B tgt L K S Q) : ev_E g μ d B pc L (ev_i x :: K) S Q := by
  intro l p e R s m args below meth c H locs cells slots mc ms Λ ls X hL hz hK
  exact lv_tableOut X.1.1 X.1.2.1 h hx ht (kk l p e R s m args below meth c H locs cells slots mc ms Λ ls X hL hz (fun v hv => hK v (List.mem_cons_of_mem _ hv)))
theorem ev_tableIn {dflt lo hi : Int} {offs : Array Int} {len : Nat} {x : Int32} {off : Int} (tgt : Nat) (h : decode (ev_by μ) pc = .ok (.tableswitch dflt lo hi offs, len)) (h1 : ¬ x.toInt < lo) (h2 : ¬ hi < x.toInt) (ho : offs[(x.toInt - lo).toNat]? = some off) (ht : (pc : Int) + off = (tgt : Int)) (kk : ev_E g μ d B tgt L K S Q) : ev_E g μ d B pc L (ev_i x :: K) S Q := by
  intro l p e R s m args below meth c H locs cells slots mc ms Λ ls X hL hz hK
  exact lv_tableIn X.1.1 X.1.2.1 h h1 h2 ho ht (kk l p e R s m args below meth c H locs cells slots mc ms Λ ls X hL hz (fun v hv => hK v (List.mem_cons_of_mem _ hv)))
theorem ev_ko_z {g : ev_G} {Λ : ev_Y} {n a : Nat} (hn : n < 900) (h : ev_ok g Λ (ev_o (100 + n) a)) : ev_at g Λ (20, n) a := by
  have h : ev_at g Λ (ev_ko (100 + n)) a := h
  unfold ev_ko at h
  rw [if_neg (by omega), if_neg (by omega), if_pos (by omega), Nat.add_sub_cancel_left] at h
  exact h
theorem ev_ko_b {g : ev_G} {Λ : ev_Y} {n a : Nat} (h : ev_ok g Λ (ev_o (1000 + n) a)) : ev_at g Λ (23, n) a := by
  have h : ev_at g Λ (ev_ko (1000 + n)) a := h
  unfold ev_ko at h
  rw [if_neg (by omega), if_neg (by omega), if_neg (by omega), Nat.add_sub_cancel_left] at h
  exact h
/-- getfield: a number, or the child that lies there -/
theorem ev_get (ci k index : Nat) {C : String} {T : u_T} {N a : Nat} (v : ev_V) (h : decode (ev_by μ) pc = .ok (.getfield index, 3)) (hcl : ev_cl[ci]? = some (C, T, N)) (hci : ci < 16) (hin : ∀ w ∈ u_ws C T N, w ∈ ev_gw) (hk : k < N) (hlink : Cond.fieldLink (ev_own μ) index (T k).1 (T k).2.1 (T k).2.2.1 ∈ ev_gw)
    (hv : (ev_fs ci (S.1 a) (S.2.2 a) a)[k]? = some (ev_c g v)) (hok : ev_at g S.2.1 (ci, 0) a → ev_ok g S.2.1 v) (kk : ev_E g μ d B (pc + 3) L (v :: K) S Q) : ev_E g μ d B pc L (ev_o ci a :: K) S Q := by
  intro l p e R s m args below meth c H locs cells slots mc ms Λ ls X hL hz hK
  have h0 : ev_at g S.2.1 (ci, 0) a := by
    have := hK _ List.mem_cons_self
    simpa [ev_ok, ev_ko, hci] using this
  obtain ⟨q, hq⟩ := ev_get_ws (S := S) h0
  simp only [ev_en, hci, if_true] at hq
  exact va_get (ref := (T k).1) X.1.1 X.1.2.1 X.2.1.1 hin X.1.2.2.2.2.1 X.2.1.2.1 X.2.2.2.1 q hq hcl k hk (X.2.1.1 _ hlink) (fun _ h9 => h9) hv h
    (kk l p e R s m args below meth c H locs cells slots mc ms Λ ls X hL hz (List.forall_mem_cons.mpr ⟨hok h0, fun v hv => hK v (List.mem_cons_of_mem _ hv)⟩))
theorem ev_fs_len (ci : Nat) (r r' : Nat → Int32) (ρ ρ' : Nat → Option Nat) (a : Nat) : (ev_fs ci r ρ a).length = (ev_fs ci r' ρ' a).length := by
  unfold ev_fs
  split <;> rfl
/-- the world behind a row that was written -/
theorem ev_X.row {l : Launch} {p : Program} {R : Room} {s : State} {m : MethodId} {args : Array Value} {meth : Method} {c : Code} {H H1 : Heap} {locs locs1 : List Loc} {cells slots mc ms : Nat} {Λ : ev_Y} (X : ev_X g μ d B S l p R s m args meth c H locs cells slots mc ms Λ) {S' : ev_S} (hP : va_P (ev_D g) ev_cl (ev_ws g S') H1) (hS : va_S (ev_A g) s.heap H1 locs1) (hΛ : S'.2.1 = S.2.1 := by rfl) : ev_X g μ d B S' l p R s m args meth c H1 locs1 cells slots mc ms Λ :=
  ⟨X.1, X.2.1, ⟨X.2.2.1.1, X.2.2.1.2.1, X.2.2.1.2.2.1, X.2.2.1.2.2.2.1, X.2.2.1.2.2.2.2.1, X.2.2.1.2.2.2.2.2.1, by rw [hΛ]; exact X.sx, by rw [hΛ]; exact X.lw, X.nm⟩, hP, hS⟩
theorem ev_put (ci k index : Nat) {C : String} {T : u_T} {N a : Nat} {x : Int32} (ty0 : Nat → FieldType) (h : decode (ev_by μ) pc = .ok (.putfield index, 3)) (hcl : ev_cl[ci]? = some (C, T, N)) (hci : ci < 16) (hin : ∀ w ∈ u_ws C T N, w ∈ ev_gw) (hty : ∀ k, k < N → parseFieldDescriptor (T k).2.2.1 = some (ty0 k)) (hnm : ∀ a, a < N → ∀ b, b < N → a ≠ b → (T a).2.1 ≠ (T b).2.1) (hk : k < N) (hlink : Cond.fieldLink (ev_own μ) index (T k).1 (T k).2.1 (T k).2.2.1 ∈ ev_gw)
    (hfin : (T k).2.2.2 = false) (ty : FieldType) (hd : parseFieldDescriptor (T k).2.2.1 = some ty) (hn : narrow ty (.int x) = .int x) (hfit : fits ty (.int x) = true) (hset : (ev_fs ci (S.1 a) (S.2.2 a) a).set k (.int x) = ev_fs ci (upd (S.1 a) k x) (S.2.2 a) a) (hkl : k < (ev_fs ci (S.1 a) (S.2.2 a) a).length)
    (kk : ev_E g μ d B (pc + 3) L K (ev_up S a k x) Q) : ev_E g μ d B pc L (ev_i x :: ev_o ci a :: K) S Q := by
  intro l p e R s m args below meth c H locs cells slots mc ms Λ ls X hL hz hK
  have h0 : ev_at g S.2.1 (ci, 0) a := by
    have := hK _ (List.mem_cons_of_mem _ List.mem_cons_self)
    simpa [ev_ok, ev_ko, hci] using this
  obtain ⟨q, hq⟩ := ev_get_ws (S := S) h0
  have hq' := hq
  simp only [ev_en, hci, if_true] at hq'
  refine va_put (ref := (T k).1) X.1.1 X.1.2.1 X.2.1.1 hin ty0 hty hnm X.1.2.2.2.2.1 X.2.1.2.1 X.2.2.2.1 (ev_ws_D X.lw) X.2.2.2.2 q hq' hcl k hk (X.2.1.1 _ hlink) (fun _ h9 => h9) hfin hd hn hfit hkl h (fun H1 locs1 hP hD hS => ?_)
  have e1 := ev_set_ws (r := upd (S.1 a) k x) X.lw h0 hq
  simp only [ev_en, hci, if_true] at e1
  have hP : va_P (ev_D g) ev_cl (List.set (ev_ws g S) q (a, Sum.inr (ci, (ev_fs ci (S.1 a) (S.2.2 a) a).set k (.int x)))) H1 := hP
  rw [hset, e1] at hP
  exact kk l p e R s m args below meth c H1 locs1 cells slots mc ms Λ ls (X.row hP hS) hL hz (fun v hv => hK v (List.mem_cons_of_mem _ (List.mem_cons_of_mem _ hv)))
theorem ev_iaload {n a : Nat} {i : Int32} (h : decode (ev_by μ) pc = .ok (.iaload, 1)) (hi : vp_in i n) (kk : ev_E g μ d B (pc + 1) L (ev_i (S.1 a i.toNatClampNeg) :: K) S Q) : ev_E g μ d B pc L (ev_i i :: ev_y n a :: K) S Q := by
  intro l p e R s m args below meth c H locs cells slots mc ms Λ ls X hL hz hK
  have h0 : ev_at g S.2.1 (19, n) a := hK _ (List.mem_cons_of_mem _ List.mem_cons_self)
  obtain ⟨q, hq⟩ := ev_get_ws (S := S) h0
  exact va_iald X.1.1 X.1.2.1 X.2.1.2.1 X.2.2.2.1 q 0 hq rfl hi h (kk l p e R s m args below meth c H locs cells slots mc ms Λ ls X hL hz (List.forall_mem_cons.mpr ⟨trivial, fun v hv => hK v (List.mem_cons_of_mem _ (List.mem_cons_of_mem _ hv))⟩))
theorem ev_iastore {n a : Nat} {i x : Int32} (h : decode (ev_by μ) pc = .ok (.iastore, 1)) (hi : vp_in i n) (kk : ev_E g μ d B (pc + 1) L K (ev_up S a i.toNatClampNeg x) Q) : ev_E g μ d B pc L (ev_i x :: ev_i i :: ev_y n a :: K) S Q := by
  intro l p e R s m args below meth c H locs cells slots mc ms Λ ls X hL hz hK
  have h0 : ev_at g S.2.1 (19, n) a := hK _ (List.mem_cons_of_mem _ (List.mem_cons_of_mem _ List.mem_cons_self))
  obtain ⟨q, hq⟩ := ev_get_ws (S := S) h0
  refine va_iast X.1.1 X.1.2.1 X.2.1.2.1 X.2.2.2.1 (ev_ws_D X.lw) X.2.2.2.2 q 0 hq rfl hi h (fun H1 locs1 hP hD hS => ?_)
  have e1 := ev_set_ws (r := upd (S.1 a) i.toNatClampNeg x) X.lw h0 hq
  have hP : va_P (ev_D g) ev_cl (List.set (ev_ws g S) q (a, ev_en g (19, n) (upd (S.1 a) i.toNatClampNeg x) (S.2.2 a) a)) H1 := hP
  rw [e1] at hP
  exact kk l p e R s m args below meth c H1 locs1 cells slots mc ms Λ ls (X.row hP hS) hL hz (fun v hv => hK v (List.mem_cons_of_mem _ (List.mem_cons_of_mem _ (List.mem_cons_of_mem _ hv))))
theorem ev_baload {n a : Nat} {i : Int32} (hn : n < 900) (h : decode (ev_by μ) pc = .ok (.baload, 1)) (hi : vp_in i n) (kk : ev_E g μ d B (pc + 1) L (ev_i (S.1 a i.toNatClampNeg) :: K) S Q) : ev_E g μ d B pc L (ev_i i :: ev_o (100 + n) a :: K) S Q := by
  intro l p e R s m args below meth c H locs cells slots mc ms Λ ls X hL hz hK
  have h0 : ev_at g S.2.1 (20, n) a := ev_ko_z hn (hK _ (List.mem_cons_of_mem _ List.mem_cons_self))
  obtain ⟨q, hq⟩ := ev_get_ws (S := S) h0
  exact va_zald X.1.1 X.1.2.1 X.2.1.2.1 X.2.2.2.1 q 1 hq rfl hi h (kk l p e R s m args below meth c H locs cells slots mc ms Λ ls X hL hz (List.forall_mem_cons.mpr ⟨trivial, fun v hv => hK v (List.mem_cons_of_mem _ (List.mem_cons_of_mem _ hv))⟩))
theorem ev_bastore {n a : Nat} {i x : Int32} (hn : n < 900) (h : decode (ev_by μ) pc = .ok (.bastore, 1)) (hi : vp_in i n) (hx : vp_nar .boolean x = x) (kk : ev_E g μ d B (pc + 1) L K (ev_up S a i.toNatClampNeg x) Q) : ev_E g μ d B pc L (ev_i x :: ev_i i :: ev_o (100 + n) a :: K) S Q := by
  intro l p e R s m args below meth c H locs cells slots mc ms Λ ls X hL hz hK
  have h0 : ev_at g S.2.1 (20, n) a := ev_ko_z hn (hK _ (List.mem_cons_of_mem _ (List.mem_cons_of_mem _ List.mem_cons_self)))
  obtain ⟨q, hq⟩ := ev_get_ws (S := S) h0
  refine va_zast X.1.1 X.1.2.1 X.2.1.2.1 X.2.2.2.1 (ev_ws_D X.lw) X.2.2.2.2 q 1 hq rfl hi h (fun H1 locs1 hP hD hS => ?_)
  have e1 := ev_set_ws (r := upd (S.1 a) i.toNatClampNeg x) X.lw h0 hq
  rw [hx] at hP
  have hP : va_P (ev_D g) ev_cl (List.set (ev_ws g S) q (a, ev_en g (20, n) (upd (S.1 a) i.toNatClampNeg x) (S.2.2 a) a)) H1 := hP
  rw [e1] at hP
  exact kk l p e R s m args below meth c H1 locs1 cells slots mc ms Λ ls (X.row hP hS) hL hz (fun v hv => hK v (List.mem_cons_of_mem _ (List.mem_cons_of_mem _ (List.mem_cons_of_mem _ hv))))
theorem ev_alen {n a : Nat} (x : Int32) (h : decode (ev_by μ) pc = .ok (.arraylength, 1)) (hx : Int32.ofNat n = x) (kk : ev_E g μ d B (pc + 1) L (ev_i x :: K) S Q) : ev_E g μ d B pc L (ev_y n a :: K) S Q := by
  intro l p e R s m args below meth c H locs cells slots mc ms Λ ls X hL hz hK
  have h0 : ev_at g S.2.1 (19, n) a := hK _ List.mem_cons_self
  obtain ⟨q, hq⟩ := ev_get_ws (S := S) h0
  exact va_alen X.1.1 X.1.2.1 X.2.1.2.1 X.2.2.2.1 q 0 hq rfl hx h (kk l p e R s m args below meth c H locs cells slots mc ms Λ ls X hL hz (List.forall_mem_cons.mpr ⟨trivial, fun v hv => hK v (List.mem_cons_of_mem _ hv)⟩))
theorem ev_glen {a : Nat} (x : Int32) (h : decode (ev_by μ) pc = .ok (.arraylength, 1)) (hx : Int32.ofNat 8 = x) (kk : ev_E g μ d B (pc + 1) L (ev_i x :: K) S Q) : ev_E g μ d B pc L (ev_o 24 a :: K) S Q := by
  intro l p e R s m args below meth c H locs cells slots mc ms Λ ls X hL hz hK
  have h0 : ev_at g S.2.1 (24, 8) a := hK _ List.mem_cons_self
  obtain ⟨q, hq⟩ := ev_get_ws (S := S) h0
  exact va_alen X.1.1 X.1.2.1 X.2.1.2.1 X.2.2.2.1 q 4 hq rfl hx h (kk l p e R s m args below meth c H locs cells slots mc ms Λ ls X hL hz (List.forall_mem_cons.mpr ⟨trivial, fun v hv => hK v (List.mem_cons_of_mem _ hv)⟩))
end EvMem
