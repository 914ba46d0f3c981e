/-! ===== rows: literals, statics, the script, rows of longs, doubles, games; the JDK's natives and Math ===== -/
theorem ev_in0 : vp_in 0 1 := by unfold vp_in; decide
section EvOth
variable {g : ev_G} {μ : ev_M} {d B pc : Nat} {L : List (Option ev_V)} {K : List ev_V} {S : ev_S} {Q : ev_O → ev_S → Prop}
theorem ev_ldc {index : Nat} (text : String) (sk : Nat) (h : decode (ev_by μ) pc = .ok (.ldc index, 2)) (hst : (ev_own μ, (index, (text, sk))) ∈ ev_st) (hsk : sk < 15) (kk : ev_E g μ d B (pc + 2) L (ev_x 1 sk :: K) S Q) : ev_E g μ d B pc L K S Q := by
  intro l p e R s m args below meth c H locs cells slots mc ms Λ ls X hL hz hK
  exact va_ldcS X.1.1 X.1.2.1 X.1.2.2.2.2.1 (X.2.1.2.2.1.1.2.1 _ hst) h (kk l p e R s m args below meth c H locs cells slots mc ms Λ ls X hL hz (List.forall_mem_cons.mpr ⟨fun _ => hsk, hK⟩))
theorem ev_ldcw {index : Nat} (text : String) (sk : Nat) (h : decode (ev_by μ) pc = .ok (.ldc_w index, 3)) (hst : (ev_own μ, (index, (text, sk))) ∈ ev_st) (hsk : sk < 15) (kk : ev_E g μ d B (pc + 3) L (ev_x 1 sk :: K) S Q) : ev_E g μ d B pc L K S Q := by
  intro l p e R s m args below meth c H locs cells slots mc ms Λ ls X hL hz hK T hT Y
  have hZ := X.2.1.2.2.1.1.2.1 _ hst
  obtain ⟨t, a1, b1⟩ := kk l p e R s m args below meth c H locs cells slots mc ms Λ ls X hL hz (List.forall_mem_cons.mpr ⟨fun _ => hsk, hK⟩) T hT Y
  exact ⟨t, Y.ldcStringW X.1.1 X.1.2.2.2.2.1 (text := text) (a := ev_aK g sk) hZ.1 hZ.2 (g := F0 m pc ls (K.map (ev_c g))) rfl (by rw [X.1.2.1]; exact h) t a1, b1⟩
/-- COMPACT_STRINGS is 1 -/
theorem ev_compact {index : Nat} (h : decode (ev_by μ) pc = .ok (.getstatic index, 3)) (hlink : Cond.fieldLink (ev_own μ) index "java/lang/String" "COMPACT_STRINGS" "Z" ∈ ev_gw) (kk : ev_E g μ d B (pc + 3) L (ev_i 1 :: K) S Q) : ev_E g μ d B pc L K S Q := by
  intro l p e R s m args below meth c H locs cells slots mc ms Λ ls X hL hz hK
  exact va_gets X.1.1 X.1.2.1 X.2.1.2.2.1.2.2.1 X.2.2.2.2 X.1.2.2.2.2.1 (X.2.1.1 _ hlink) (fun _ h9 => h9) h (kk l p e R s m args below meth c H locs cells slots mc ms Λ ls X hL hz (List.forall_mem_cons.mpr ⟨trivial, hK⟩))
theorem ev_form {index : Nat} (h : decode (ev_by μ) pc = .ok (.getstatic index, 3)) (hlink : Cond.fieldLink (ev_own μ) index "jdk/internal/util/Preconditions" "SIOOBE_FORMATTER" "Ljava/util/function/BiFunction;" ∈ ev_gw) (kk : ev_E g μ d B (pc + 3) L (ev_x 3 0 :: K) S Q) : ev_E g μ d B pc L K S Q := by
  intro l p e R s m args below meth c H locs cells slots mc ms Λ ls X hL hz hK
  exact va_gets X.1.1 X.1.2.1 X.2.1.2.2.1.2.2.2.1 X.2.2.2.2 X.1.2.2.2.2.1 (X.2.1.1 _ hlink) (fun _ h9 => h9) h (kk l p e R s m args below meth c H locs cells slots mc ms Λ ls X hL hz (List.forall_mem_cons.mpr ⟨(fun h => by rcases h with h | h <;> cases h), hK⟩))
theorem ev_sval {index i : Nat} (h : decode (ev_by μ) pc = .ok (.getfield index, 3)) (hlink : Cond.fieldLink (ev_own μ) index "java/lang/String" "value" "[B" ∈ ev_gw) (kk : ev_E g μ d B (pc + 3) L (ev_x 2 i :: K) S Q) : ev_E g μ d B pc L (ev_x 1 i :: K) S Q := by
  intro l p e R s m args below meth c H locs cells slots mc ms Λ ls X hL hz hK
  have hi : i < 15 := hK _ List.mem_cons_self (Or.inl rfl)
  exact vk_getf X.1.1 X.1.2.1 (X.2.1.2.2.1.2.2.2.2.1 i hi).2.2.1 X.2.2.2.2 X.1.2.2.2.2.1 (X.2.1.1 _ hlink) (fun _ h9 => h9) h (kk l p e R s m args below meth c H locs cells slots mc ms Λ ls X hL hz (List.forall_mem_cons.mpr ⟨fun _ => hi, fun v hv => hK v (List.mem_cons_of_mem _ hv)⟩))
theorem ev_coder {index i : Nat} (h : decode (ev_by μ) pc = .ok (.getfield index, 3)) (hlink : Cond.fieldLink (ev_own μ) index "java/lang/String" "coder" "B" ∈ ev_gw) (kk : ev_E g μ d B (pc + 3) L (ev_i 0 :: K) S Q) : ev_E g μ d B pc L (ev_x 1 i :: K) S Q := by
  intro l p e R s m args below meth c H locs cells slots mc ms Λ ls X hL hz hK
  have hi : i < 15 := hK _ List.mem_cons_self (Or.inl rfl)
  exact vk_getf X.1.1 X.1.2.1 (X.2.1.2.2.1.2.2.2.2.1 i hi).2.1 X.2.2.2.2 X.1.2.2.2.2.1 (X.2.1.1 _ hlink) (fun _ h9 => h9) h (kk l p e R s m args below meth c H locs cells slots mc ms Λ ls X hL hz (List.forall_mem_cons.mpr ⟨trivial, fun v hv => hK v (List.mem_cons_of_mem _ hv)⟩))
theorem ev_sblen {i : Nat} (h : decode (ev_by μ) pc = .ok (.arraylength, 1)) (kk : ev_E g μ d B (pc + 1) L (ev_i (Int32.ofNat (ev_le.getD i 0)) :: K) S Q) : ev_E g μ d B pc L (ev_x 2 i :: K) S Q := by
  intro l p e R s m args below meth c H locs cells slots mc ms Λ ls X hL hz hK
  have hi : i < 15 := hK _ List.mem_cons_self (Or.inr rfl)
  exact va_tlen X.1.1 X.1.2.1 (X.2.1.2.2.1.2.2.2.2.1 i hi).2.2.2 X.2.2.2.2 rfl h (kk l p e R s m args below meth c H locs cells slots mc ms Λ ls X hL hz (List.forall_mem_cons.mpr ⟨trivial, fun v hv => hK v (List.mem_cons_of_mem _ hv)⟩))
theorem ev_sbat {i : Nat} {j : Int32} (h : decode (ev_by μ) pc = .ok (.baload, 1)) (hj : vp_in j (ev_le.getD i 0)) (kk : ev_E g μ d B (pc + 1) L (ev_i ((ev_bt.getD i []).getD j.toNatClampNeg 0) :: K) S Q) : ev_E g μ d B pc L (ev_i j :: ev_x 2 i :: K) S Q := by
  intro l p e R s m args below meth c H locs cells slots mc ms Λ ls X hL hz hK
  have hi : i < 15 := hK _ (List.mem_cons_of_mem _ List.mem_cons_self) (Or.inr rfl)
  exact va_tb X.1.1 X.1.2.1 (X.2.1.2.2.1.2.2.2.2.1 i hi).2.2.2 X.2.2.2.2 hj rfl h (kk l p e R s m args below meth c H locs cells slots mc ms Λ ls X hL hz (List.forall_mem_cons.mpr ⟨trivial, fun v hv => hK v (List.mem_cons_of_mem _ (List.mem_cons_of_mem _ hv))⟩))
theorem ev_X.sb {l : Launch} {p : Program} {R : Room} {s : State} {m : MethodId} {args : Array Value} {meth : Method} {c : Code} {H : Heap} {locs : List Loc} {cells slots mc ms : Nat} {Λ : ev_Y} (X : ev_X g μ d B S l p R s m args meth c H locs cells slots mc ms Λ) : va_X (ev_sb g) (ev_sl g) (ev_sx g) s s.heap ∧ ev_sb g < s.heap.size ∧ ¬ ev_A g (ev_sb g) := by
  have h1 := X.2.1.2.2.1.2.2.2.2.2.1
  refine ⟨h1, ?_, X.2.1.2.2.1.2.2.2.2.2.2.1⟩
  obtain ⟨scr, e1, -⟩ := h1
  exact (Array.getElem?_eq_some_iff.mp e1).1
theorem ev_slen {a : Nat} (h : decode (ev_by μ) pc = .ok (.arraylength, 1)) (kk : ev_E g μ d B (pc + 1) L (ev_i (Int32.ofNat (ev_sl g)) :: K) S Q) : ev_E g μ d B pc L (ev_x 0 a :: K) S Q := by
  intro l p e R s m args below meth c H locs cells slots mc ms Λ ls X hL hz hK
  obtain ⟨h1, h2, h3⟩ := X.sb
  exact va_slen X.1.1 X.1.2.1 h1 h2 h3 X.2.2.2.2 h (kk l p e R s m args below meth c H locs cells slots mc ms Λ ls X hL hz (List.forall_mem_cons.mpr ⟨trivial, fun v hv => hK v (List.mem_cons_of_mem _ hv)⟩))
theorem ev_sld {a : Nat} {i : Int32} (h : decode (ev_by μ) pc = .ok (.iaload, 1)) (hi : vp_in i (ev_sl g)) (kk : ev_E g μ d B (pc + 1) L (ev_i (ev_sx g i.toNatClampNeg) :: K) S Q) : ev_E g μ d B pc L (ev_i i :: ev_x 0 a :: K) S Q := by
  intro l p e R s m args below meth c H locs cells slots mc ms Λ ls X hL hz hK
  obtain ⟨h1, h2, h3⟩ := X.sb
  exact va_sld X.1.1 X.1.2.1 h1 h2 h3 X.2.2.2.2 hi h (kk l p e R s m args below meth c H locs cells slots mc ms Λ ls X hL hz (List.forall_mem_cons.mpr ⟨trivial, fun v hv => hK v (List.mem_cons_of_mem _ (List.mem_cons_of_mem _ hv))⟩))
end EvOth
section EvJdk
variable {g : ev_G} {μ : ev_M} {d B pc : Nat} {L : List (Option ev_V)} {K : List ev_V} {S : ev_S} {Q : ev_O → ev_S → Prop}
theorem ev_aaload {a : Nat} {i : Int32} (h : decode (ev_by μ) pc = .ok (.aaload, 1)) (hi : vp_in i 8) (hok : ev_ok g S.2.1 (ev_o 2 (a + 1 + 41 * i.toNatClampNeg))) (kk : ev_E g μ d B (pc + 1) L (ev_o 2 (a + 1 + 41 * i.toNatClampNeg) :: K) S Q) : ev_E g μ d B pc L (ev_i i :: ev_o 24 a :: K) S Q := by
  intro l p e R s m args below meth c H locs cells slots mc ms Λ ls X hL hz hK
  have h0 : ev_at g S.2.1 (24, 8) a := hK _ (List.mem_cons_of_mem _ List.mem_cons_self)
  obtain ⟨q, hq⟩ := ev_get_ws (S := S) h0
  exact va_aldq X.1.1 X.1.2.1 X.2.1.2.1 X.2.2.2.1 q 4 hq rfl hi h (kk l p e R s m args below meth c H locs cells slots mc ms Λ ls X hL hz (List.forall_mem_cons.mpr ⟨hok, fun v hv => hK v (List.mem_cons_of_mem _ (List.mem_cons_of_mem _ hv))⟩))
theorem ev_ifnull {v : ev_V} {off : Int} (h : decode (ev_by μ) pc = .ok (.ifnull off, 3)) (hr : ev_isr v = true) (kk : ev_E g μ d B (pc + 3) L K S Q) : ev_E g μ d B pc L (v :: K) S Q := by
  intro l p e R s m args below meth c H locs cells slots mc ms Λ ls X hL hz hK
  obtain ⟨a, ha⟩ := ev_isr_ref (g := g) hr
  rw [List.map_cons, ha]
  exact lv_ifnull X.1.1 X.1.2.1 h (kk l p e R s m args below meth c H locs cells slots mc ms Λ ls X hL hz (fun v hv => hK v (List.mem_cons_of_mem _ hv)))
/-- smaller, larger, absolute -/
def ev_min (x y : Int32) : Int32 := if y < x then y else x
def ev_max (x y : Int32) : Int32 := if x < y then y else x
def ev_abs (x : Int32) : Int32 := if 0 ≤ x then x else 0 - x
theorem ev_mathMin {index : Nat} {x y : Int32} (h : decode (ev_by μ) pc = .ok (.invokestatic index, 3)) (hlink : Cond.methodLink (ev_own μ) index Lib.Math.min.name ∈ ev_gw) (hstat : Cond.static Lib.Math.min.name ∈ ev_gw) (hini : Cond.initialized "java/lang/Math" ∈ ev_gw) (hcode : Cond.code Lib.Math.min.name Lib.Math.min.code 2 (some .int) ∈ ev_gw) (hcat : (K.map ev_w).sum ≤ 8)
    (kk : ev_E g μ d B (pc + 3) L (ev_i (ev_min x y) :: K) S Q) : ev_E g μ d B pc L (ev_i y :: ev_i x :: K) S Q := by
  intro l p e R s m args below meth c H locs cells slots mc ms Λ ls X hL hz hK
  have := X.2.2.1
  exact va_mmin X.1.1 X.1.2.1 (X.1.2.2.2.1.trans hz.symm) X.1.2.2.2.2.1 (X.2.1.1 _ hlink) (X.2.1.1 _ hstat) (X.2.1.1 _ hini) (X.2.1.1 _ hcode) (by omega) (by rw [ev_cats X.fm]; omega) (by omega) (by omega) h
    (kk l p e R s m args below meth c H locs cells slots mc ms Λ ls X hL hz (List.forall_mem_cons.mpr ⟨trivial, fun v hv => hK v (List.mem_cons_of_mem _ (List.mem_cons_of_mem _ hv))⟩))
theorem ev_mathMax {index : Nat} {x y : Int32} (h : decode (ev_by μ) pc = .ok (.invokestatic index, 3)) (hlink : Cond.methodLink (ev_own μ) index Lib.Math.max.name ∈ ev_gw) (hstat : Cond.static Lib.Math.max.name ∈ ev_gw) (hini : Cond.initialized "java/lang/Math" ∈ ev_gw) (hcode : Cond.code Lib.Math.max.name Lib.Math.max.code 2 (some .int) ∈ ev_gw) (hcat : (K.map ev_w).sum ≤ 8)
    (kk : ev_E g μ d B (pc + 3) L (ev_i (ev_max x y) :: K) S Q) : ev_E g μ d B pc L (ev_i y :: ev_i x :: K) S Q := by
  intro l p e R s m args below meth c H locs cells slots mc ms Λ ls X hL hz hK
  have := X.2.2.1
  exact va_mmax X.1.1 X.1.2.1 (X.1.2.2.2.1.trans hz.symm) X.1.2.2.2.2.1 (X.2.1.1 _ hlink) (X.2.1.1 _ hstat) (X.2.1.1 _ hini) (X.2.1.1 _ hcode) (by omega) (by rw [ev_cats X.fm]; omega) (by omega) (by omega) h
    (kk l p e R s m args below meth c H locs cells slots mc ms Λ ls X hL hz (List.forall_mem_cons.mpr ⟨trivial, fun v hv => hK v (List.mem_cons_of_mem _ (List.mem_cons_of_mem _ hv))⟩))
theorem ev_mathAbs {index : Nat} {x : Int32} (h : decode (ev_by μ) pc = .ok (.invokestatic index, 3)) (hlink : Cond.methodLink (ev_own μ) index Lib.Math.abs.name ∈ ev_gw) (hstat : Cond.static Lib.Math.abs.name ∈ ev_gw) (hini : Cond.initialized "java/lang/Math" ∈ ev_gw) (hcode : Cond.code Lib.Math.abs.name Lib.Math.abs.code 1 (some .int) ∈ ev_gw) (hcat : (K.map ev_w).sum ≤ 8)
    (kk : ev_E g μ d B (pc + 3) L (ev_i (ev_abs x) :: K) S Q) : ev_E g μ d B pc L (ev_i x :: K) S Q := by
  intro l p e R s m args below meth c H locs cells slots mc ms Λ ls X hL hz hK
  have := X.2.2.1
  exact va_mabs X.1.1 X.1.2.1 (X.1.2.2.2.1.trans hz.symm) X.1.2.2.2.2.1 (X.2.1.1 _ hlink) (X.2.1.1 _ hstat) (X.2.1.1 _ hini) (X.2.1.1 _ hcode) (by omega) (by rw [ev_cats X.fm]; omega) (by omega) (by omega) h
    (kk l p e R s m args below meth c H locs cells slots mc ms Λ ls X hL hz (List.forall_mem_cons.mpr ⟨trivial, fun v hv => hK v (List.mem_cons_of_mem _ hv)⟩))
/-- System.arraycopy of a row's first n numbers onto another row's first -/
theorem ev_copy {index n0 n1 a0 a1 : Nat} {n : Int32} (h : decode (ev_by μ) pc = .ok (.invokestatic index, 3)) (hlink : Cond.methodLink (ev_own μ) index arraycopyName ∈ ev_gw) (hnat : Cond.native arraycopyName ∈ ev_gw) (hstat : Cond.static arraycopyName ∈ ev_gw) (hini : Cond.initialized "java/lang/System" ∈ ev_gw) (h3 : ¬ n < 0) (h4 : n.toNatClampNeg ≤ n0) (h5 : n.toNatClampNeg ≤ n1) (hcat : (K.map ev_w).sum ≤ 8)
    (kk : ev_E g μ d B (pc + 3) L K (ev_ur S a1 (va_cpy (S.1 a0) (S.1 a1) 0 0 n.toNatClampNeg)) Q) : ev_E g μ d B pc L (ev_i n :: ev_i 0 :: ev_y n1 a1 :: ev_i 0 :: ev_y n0 a0 :: K) S Q := by
  intro l p e R s m args below meth c H locs cells slots mc ms Λ ls X hL hz hK
  have hr := X.2.2.1
  have h0 : ev_at g S.2.1 (19, n1) a1 := hK (ev_y n1 a1) (by simp)
  have h9 : ev_at g S.2.1 (19, n0) a0 := hK (ev_y n0 a0) (by simp)
  obtain ⟨q, hq⟩ := ev_get_ws (S := S) h0
  obtain ⟨q2, hq2⟩ := ev_get_ws (S := S) h9
  have hnw : nativeFrameWords "java/lang/System" "arraycopy" 5 + 11 ≤ 40 := by decide
  refine va_copyi (sp := 0) (dp := 0) X.1.1 X.1.2.1 (X.1.2.2.2.1.trans hz.symm) X.1.2.2.2.2.1 (X.2.1.1 _ hlink) (X.2.1.1 _ hnat) (X.2.1.1 _ hstat) (X.2.1.1 _ hini) X.2.1.2.1 X.2.2.2.1 (ev_ws_D X.lw) X.2.2.2.2 q2 q 0 0 hq2 hq rfl rfl rfl (by decide) (by decide) h3 (by show 0 + _ ≤ _; omega) (by show 0 + _ ≤ _; omega) (fun i hi => rfl) (by omega) (by rw [ev_cats X.fm]; omega) h (fun H1 locs1 hP hD hS => ?_)
  have e1 := ev_set_ws (r := va_cpy (S.1 a0) (S.1 a1) 0 0 n.toNatClampNeg) X.lw h0 hq
  have hP : va_P (ev_D g) ev_cl (List.set (ev_ws g S) q (a1, ev_en g (19, n1) (va_cpy (S.1 a0) (S.1 a1) 0 0 n.toNatClampNeg) (S.2.2 a1) a1)) H1 := hP
  rw [e1] at hP
  exact kk l p e R s m args below meth c H1 locs1 cells slots mc ms Λ ls (X.row hP hS) hL hz (fun v hv => hK v (by simp [hv]))
/-- a method of a literal -/
theorem ev_callK (μ' : ev_M) (d' B' index : Nat) {n i : Nat} (As : List ev_V) {Q' : ev_O → ev_S → Prop} (h : decode (ev_by μ) pc = .ok (.invokevirtual index, 3)) (hhh : ev_hh μ' = [])
    (hw1 : Cond.methodLink (ev_own μ) index (ev_mn μ') ∈ ev_gw) (hw2 : Cond.instanceMethod (ev_mn μ') ∈ ev_gw) (hw3 : Cond.selects "java/lang/String" (ev_mn μ') (ev_mn μ') ∈ ev_gw) (hw4 : Cond.initialized "java/lang/String" ∈ ev_gw) (hw5 : ev_cd μ' ∈ ev_gw)
    (hd : (ev_mn μ').cls = "java/lang/String" ∧ (ev_mn μ').cls ≠ "java/lang/invoke/MethodHandle" ∧ (ev_mn μ').cls ≠ "java/lang/invoke/VarHandle" ∧ (parseMethodDescriptor (ev_mn μ').desc).map (fun d => d.parameters.length) = some n) (hn : As.length = n)
    (hdd : d' + 1 ≤ d) (hB : B' ≤ B) (hml : ev_ml μ' ≤ 11) (hcat : (K.map ev_w).sum ≤ 8) (hM : ev_Cv g μ' d' B' (ev_x 1 i :: As) S Q') (kk : ∀ o S', Q' o S' → ev_After g μ d (B - B') pc L K S' Q o) : ev_E g μ d B pc L (As.reverse ++ ev_x 1 i :: K) S Q := by
  intro l p e R s m args below meth c H locs cells slots mc ms Λ ls X hL hz hK
  have hfm := X.fm
  have hK2 : ∀ v ∈ K, ev_ok g S.2.1 v := fun v hv => hK v (List.mem_append_right _ (List.mem_cons_of_mem _ hv))
  have hi : i < 15 := hK _ (List.mem_append_right _ List.mem_cons_self) (Or.inl rfl)
  have hoa : ∀ v ∈ ev_x 1 i :: As, ev_ok g S.2.1 v := fun v hv => hK v (by
    rcases List.mem_cons.mp hv with rfl | hv
    · exact List.mem_append_right _ List.mem_cons_self
    · exact List.mem_append_left _ (List.mem_reverse.mpr hv))
  have hg := ev_good hw5
  have hwm := ev_wm_nil hhh
  have hgT : GoodIn ev_gw (wsV (ev_own μ) index "java/lang/String" (ev_mn μ') (ev_wm μ')) := by
    intro w h9
    unfold wsV at h9
    rcases List.mem_append.mp h9 with h9 | h9
    · have : w ∈ ev_gw := by
        simp only [List.mem_cons, List.not_mem_nil, or_false] at h9
        rcases h9 with rfl | rfl | rfl | rfl <;> assumption
      exact ⟨this, ev_gw_good this⟩
    · exact hg w h9
  refine ev_cont hB X hL hz hK2 (st0 := (As.reverse ++ ev_x 1 i :: K).map (ev_c g)) (args' := (Value.ref (ev_aK g i) :: As.map (ev_c g)).toArray)
    (vx_runV (As := As.map (ev_c g)) (n := n) (nL := ev_ml μ) (C := "java/lang/String") (b := ev_aK g i) (ret := ev_rt μ') (maxL := ev_ml μ') (bytes := ev_by μ') ⟨X.1.1, X.1.2.1, X.1.2.2.2.1, X.1.2.2.2.2.1, X.2.1.1⟩ (hM hoa l X.1.2.2.2.2.2.2.2)
      (cwV n X.2.1.1 hgT hwm rfl rfl hd ⟨?_, ?_⟩) ⟨ev_blind _ _ _, va_Orecv (X.2.1.2.2.1.2.2.2.2.1 i hi).1 X.2.2.2.2, ?_⟩ rfl (by rw [List.length_map]; exact hn) hz ?_ ?_ h ⟨?_, ?_⟩) kk
  · show d' + 6 + 1 ≤ R.frames; have := X.rm; omega
  · show 8 + (ev_ml μ' + 11) + (30 * d' + 300) ≤ R.locals; have := X.rm; omega
  · intro U hU hW
    exact ⟨rfl, ⟨by rw [hU]; exact Nat.le_trans X.2.1.2.2.2 X.2.2.2.2.1, by rw [hU]; exact X.2.2.2.1, va_K.moved hW.alike X.2.1.2.1, by rw [hU]; exact X.2.1.2.2.1.next hW X.2.2.2.2⟩, X.lw⟩
  · simp [ev_c, ev_cx]
  · exact lv_room (by rw [ev_cats hfm]; exact hcat)
  · have := X.rm; omega
  · have := X.rm; omega
end EvJdk
