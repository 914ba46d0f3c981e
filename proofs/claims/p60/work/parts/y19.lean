/-! ===== calls of constructors in the one world, of a superclass's methods, of inherited methods; clone ===== -/
section Jc
variable {g : ev_G} {μ : ev_M} {d B pc : Nat} {L : List (Option ev_V)} {K : List ev_V} {S : ev_S} {Q : ev_O → ev_S → Prop}
/-- a constructor, called on an object of the world -/
theorem ev_callI (μ' : ev_M) (d' B' index ci : Nat) {n a : Nat} (As : List ev_V) {Q' : ev_O → ev_S → Prop} (h : decode (ev_by μ) pc = .ok (.invokespecial index, 3)) (hhh : ev_hh μ' = []) (hrt : ev_rt μ' = none) (hnm : (ev_mn μ').name = "<init>")
    (hw1 : Cond.methodLink (ev_own μ) index (ev_mn μ') ∈ ev_gw) (hw2 : Cond.instanceMethod (ev_mn μ') ∈ ev_gw) (hw4 : Cond.initialized (ev_mn μ').cls ∈ ev_gw) (hw5 : ev_cd μ' ∈ ev_gw)
    (hd : (ev_mn μ').cls ≠ "java/lang/invoke/MethodHandle" ∧ (ev_mn μ').cls ≠ "java/lang/invoke/VarHandle" ∧ (parseMethodDescriptor (ev_mn μ').desc).map (fun d => d.parameters.length) = some n) (hn : As.length = n)
    (hdd : d' + 1 ≤ d) (hB : B' ≤ B) (hml : ev_ml μ' ≤ 11) (hcat : (K.map ev_w).sum ≤ 8) (hM : ev_Cv g μ' d' B' (ev_o ci a :: As) S Q') (hno : ∀ k z, ¬ Q' (.inr k) z) (kk : ∀ o S', Q' o S' → ev_After g μ d (B - B') pc L K S' Q o) : ev_E g μ d B pc L (As.reverse ++ ev_o ci a :: K) S Q := by
  intro l p e R s m args below meth c H locs cells slots mc ms Λ ls X hL hz hK
  have hfm := X.fm
  have hK2 : ∀ v ∈ K, ev_ok g S.2.1 v := fun v hv => hK v (List.mem_append_right _ (List.mem_cons_of_mem _ hv))
  have hoa : ∀ v ∈ ev_o ci a :: As, ev_ok g S.2.1 v := fun v hv => hK v (by
    rcases List.mem_cons.mp hv with rfl | hv
    · exact List.mem_append_right _ List.mem_cons_self
    · exact List.mem_append_left _ (List.mem_reverse.mpr hv))
  have hg := ev_good hw5
  have hwm := ev_wm_nil hhh
  rw [hrt] at hwm
  refine ev_cont hB X hL hz hK2 (st0 := (As.reverse ++ ev_o ci a :: K).map (ev_c g)) (args' := (Value.ref a :: As.map (ev_c g)).toArray) (fun T hT Y => Or.inl ?_) kk
  refine va_runI (As := As.map (ev_c g)) (n := n) (nL := ev_ml μ) (b := a) (maxL := ev_ml μ') (bytes := ev_by μ') (g := F0 m pc ls ((As.reverse ++ ev_o ci a :: K).map (ev_c g))) ⟨X.1.1, X.1.2.1, X.1.2.2.2.1, X.1.2.2.2.2.1, X.2.1.1⟩ (hM.met hno hoa X.1.2.2.2.2.2.2.2)
      (cwI n X.2.1.1 hg hwm rfl rfl (X.2.1.1 _ hw4) (X.2.1.1 _ hw1) (X.2.1.1 _ hw2) hnm hd ⟨?_, ?_⟩) ⟨ev_blind _ _ _, ?_⟩ rfl (by rw [List.length_map]; exact hn) hz ?_ ?_ h ⟨?_, ?_⟩ T hT Y
  · show d' + 6 + 1 ≤ R.frames; have := X.rm; omega
  · show 8 + (ev_ml μ' + 11) + (30 * d' + 300) ≤ R.locals; have := X.rm; omega
  · intro U hU hW
    exact ⟨rfl, ⟨by rw [hU]; exact Nat.le_trans X.2.1.2.2.2 X.2.2.2.2.1, by rw [hU]; exact X.2.2.2.1, va_K.moved hW.alike X.2.1.2.1, by rw [hU]; exact X.2.1.2.2.1.next hW X.2.2.2.2⟩, X.lw⟩
  · simp [ev_c]
  · exact lv_room (by rw [ev_cats hfm]; exact hcat)
  · have := X.rm; omega
  · have := X.rm; omega
/-- an inherited method, by the receiver's class -/
theorem ev_callU (μ' : ev_M) (x : MethodName) (owner : String) (d' B' index ci : Nat) {C : String} {T : u_T} {N n a : Nat} (As : List ev_V) {Q' : ev_O → ev_S → Prop} (h : decode (ev_by μ) pc = .ok (.invokevirtual index, 3)) (hhh : ev_hh μ' = []) (hcl : ev_cl[ci]? = some (C, T, N)) (hci : ci < 16)
    (hw1 : Cond.methodLink (ev_own μ) index x ∈ ev_gw) (hw2 : Cond.instanceMethod (ev_mn μ') ∈ ev_gw) (hw4 : Cond.initialized (ev_mn μ').cls ∈ ev_gw) (hw5 : ev_cd μ' ∈ ev_gw) (hw6 : Cond.sameMethod x.cls owner x.name x.desc ∈ ev_gw) (hw7 : Cond.instanceMethod ⟨owner, x.name, x.desc⟩ ∈ ev_gw)
    {b0 : ByteArray} {m0 : Nat} {r0 : Option FieldType} (hw8 : Cond.code ⟨owner, x.name, x.desc⟩ b0 m0 r0 ∈ ev_gw)
    (hsel : Cond.selects C x (ev_mn μ') ∈ ev_gw ∨ (x = ev_mn μ' ∧ (∃ n0, Cond.instantiable C n0 ∈ ev_gw) ∧ Cond.privateMethod x ∈ ev_ow ∧ Cond.sameMethod x.cls x.cls x.name x.desc ∈ ev_gw))
    (hd : owner ≠ "java/lang/invoke/MethodHandle" ∧ owner ≠ "java/lang/invoke/VarHandle" ∧ (parseMethodDescriptor x.desc).map (fun d => d.parameters.length) = some n) (hn : As.length = n)
    (hdd : d' + 1 ≤ d) (hB : B' ≤ B) (hml : ev_ml μ' ≤ 11) (hcat : (K.map ev_w).sum ≤ 8) (hM : ev_Cv g μ' d' B' (ev_o ci a :: As) S Q') (hno : ∀ k z, ¬ Q' (.inr k) z) (kk : ∀ o S', Q' o S' → ev_After g μ d (B - B') pc L K S' Q o) : ev_E g μ d B pc L (As.reverse ++ ev_o ci a :: K) S Q := by
  intro l p e R s m args below meth c H locs cells slots mc ms Λ ls X hL hz hK
  have hfm := X.fm
  have hK2 : ∀ v ∈ K, ev_ok g S.2.1 v := fun v hv => hK v (List.mem_append_right _ (List.mem_cons_of_mem _ hv))
  have h0 : ev_at g S.2.1 (ci, 0) a := by
    have := hK _ (List.mem_append_right _ List.mem_cons_self)
    simpa [ev_ok, ev_ko, hci] using this
  obtain ⟨q, hq⟩ := ev_get_ws (S := S) h0
  simp only [ev_en, hci, if_true] at hq
  have hoa : ∀ v ∈ ev_o ci a :: As, ev_ok g S.2.1 v := fun v hv => hK v (by
    rcases List.mem_cons.mp hv with rfl | hv
    · exact List.mem_append_right _ List.mem_cons_self
    · exact List.mem_append_left _ (List.mem_reverse.mpr hv))
  have hg := ev_good hw5
  have hwm := ev_wm_nil hhh
  have hcd : Cond.code (ev_mn μ') (ev_by μ') (ev_ml μ') (ev_rt μ') ∈ ev_gw := by
    have := hw5
    rwa [ev_cd_nil hhh] at this
  have hse : (Cond.selects C x (ev_mn μ')).before args s = true := by
    rcases hsel with h9 | ⟨e9, ⟨n0, h1⟩, h2, h3⟩
    · exact X.2.1.1 _ h9
    · rw [← e9]
      exact jb_selP (X.2.1.1 _ h1) (va_Nw.use rfl (X.2.1.2.2.1.1.2.2.2.1 _ h2)) (by rw [e9]; exact X.2.1.1 _ hw2) (X.2.1.1 _ h3)
  have hcu : va_CU R s args (ev_own μ) C owner index x (ev_mn μ') (ev_by μ') (ev_ml μ') (ev_rt μ') (ev_wm μ') (ev_rm d' B') B' (6 * B') n := by
    refine ⟨⟨rfl, rfl, ?_, ?_, pay_in X.2.1.1 hg, by rw [hwm]; exact List.mem_cons_self⟩, X.2.1.1 _ hcd, X.2.1.1 _ hw4, ⟨hd.1, hd.2.1⟩, fun sig h9 => ?_, X.2.1.1 _ hw1, X.2.1.1 _ hw6, va_Decl.of (X.2.1.1 _ hw7) (X.2.1.1 _ hw8), hse, X.2.1.1 _ hw2⟩
    · show d' + 6 + 1 ≤ R.frames; have := X.rm; omega
    · show 8 + (ev_ml μ' + 11) + (30 * d' + 300) ≤ R.locals; have := X.rm; omega
    · have h2 := hd.2.2
      rw [h9] at h2
      exact (Option.some.inj h2).symm
  refine ev_cont hB X hL hz hK2 (st0 := (As.reverse ++ ev_o ci a :: K).map (ev_c g)) (args' := (Value.ref a :: As.map (ev_c g)).toArray) (fun T hT Y => Or.inl ?_) kk
  refine va_runU (As := As.map (ev_c g)) (n := n) (nL := ev_ml μ) (C := C) (b := a) (g := F0 m pc ls ((As.reverse ++ ev_o ci a :: K).map (ev_c g))) ⟨X.1.1, X.1.2.1, X.1.2.2.2.1, X.1.2.2.2.2.1, X.2.1.1⟩ (hM.met hno hoa X.1.2.2.2.2.2.2.2)
      hcu ⟨ev_blind _ _ _, va_recv X.2.1.2.1 X.2.2.2.1 hcl hq, ?_⟩ rfl (by rw [List.length_map]; exact hn) hz ?_ ?_ h ⟨?_, ?_⟩ T hT Y
  · intro U hU hW
    exact ⟨rfl, ⟨by rw [hU]; exact Nat.le_trans X.2.1.2.2.2 X.2.2.2.2.1, by rw [hU]; exact X.2.2.2.1, va_K.moved hW.alike X.2.1.2.1, by rw [hU]; exact X.2.1.2.2.1.next hW X.2.2.2.2⟩, X.lw⟩
  · simp [ev_c]
  · exact lv_room (by rw [ev_cats hfm]; exact hcat)
  · have := X.rm; omega
  · have := X.rm; omega
/-- a superclass's method -/
theorem ev_callSU (μ' : ev_M) (d' B' index ci : Nat) {C : String} {T : u_T} {N n a : Nat} (As : List ev_V) {Q' : ev_O → ev_S → Prop} (h : decode (ev_by μ) pc = .ok (.invokespecial index, 3)) (hhh : ev_hh μ' = []) (hcl : ev_cl[ci]? = some (C, T, N)) (hci : ci < 16) (hnm : (ev_mn μ').name ≠ "<init>")
    (hw1 : Cond.methodLink (ev_own μ) index (ev_mn μ') ∈ ev_gw) (hw2 : Cond.instanceMethod (ev_mn μ') ∈ ev_gw) (hw4 : Cond.initialized (ev_mn μ').cls ∈ ev_gw) (hw5 : ev_cd μ' ∈ ev_gw) (hw6 : Cond.sameMethod (ev_mn μ').cls (ev_mn μ').cls (ev_mn μ').name (ev_mn μ').desc ∈ ev_gw) (hw7 : Cond.superclass (ev_own μ) (ev_mn μ').cls ∈ ev_gw)
    (hd : (parseMethodDescriptor (ev_mn μ').desc).map (fun d => d.parameters.length) = some n) (hn : As.length = n)
    (hdd : d' + 1 ≤ d) (hB : B' ≤ B) (hml : ev_ml μ' ≤ 11) (hcat : (K.map ev_w).sum ≤ 8) (hM : ev_Cv g μ' d' B' (ev_o ci a :: As) S Q') (hno : ∀ k z, ¬ Q' (.inr k) z) (kk : ∀ o S', Q' o S' → ev_After g μ d (B - B') pc L K S' Q o) : ev_E g μ d B pc L (As.reverse ++ ev_o ci a :: K) S Q := by
  intro l p e R s m args below meth c H locs cells slots mc ms Λ ls X hL hz hK
  have hfm := X.fm
  have hK2 : ∀ v ∈ K, ev_ok g S.2.1 v := fun v hv => hK v (List.mem_append_right _ (List.mem_cons_of_mem _ hv))
  have h0 : ev_at g S.2.1 (ci, 0) a := by
    have := hK _ (List.mem_append_right _ List.mem_cons_self)
    simpa [ev_ok, ev_ko, hci] using this
  obtain ⟨q, hq⟩ := ev_get_ws (S := S) h0
  simp only [ev_en, hci, if_true] at hq
  have hoa : ∀ v ∈ ev_o ci a :: As, ev_ok g S.2.1 v := fun v hv => hK v (by
    rcases List.mem_cons.mp hv with rfl | hv
    · exact List.mem_append_right _ List.mem_cons_self
    · exact List.mem_append_left _ (List.mem_reverse.mpr hv))
  have hg := ev_good hw5
  have hwm := ev_wm_nil hhh
  have hgT : GoodIn ev_gw (va_wsSU (ev_own μ) index (ev_mn μ') (ev_wm μ')) := by
    intro w h9
    unfold va_wsSU at h9
    rcases List.mem_append.mp h9 with h9 | h9
    · have : w ∈ ev_gw := by
        simp only [List.mem_cons, List.not_mem_nil, or_false] at h9
        rcases h9 with rfl | rfl | rfl | rfl | rfl <;> assumption
      exact ⟨this, ev_gw_good this⟩
    · exact hg w h9
  refine ev_cont hB X hL hz hK2 (st0 := (As.reverse ++ ev_o ci a :: K).map (ev_c g)) (args' := (Value.ref a :: As.map (ev_c g)).toArray) (fun T hT Y => Or.inl ?_) kk
  refine va_runSU (As := As.map (ev_c g)) (n := n) (nL := ev_ml μ) (C := C) (b := a) (ret := ev_rt μ') (maxL := ev_ml μ') (bytes := ev_by μ') (g := F0 m pc ls ((As.reverse ++ ev_o ci a :: K).map (ev_c g))) (X.2.1.2.1.1 ci _ hcl).2 ⟨X.1.1, X.1.2.1, X.1.2.2.2.1, X.1.2.2.2.2.1, X.2.1.1⟩ (hM.met hno hoa X.1.2.2.2.2.2.2.2)
      (va_cwSU n X.2.1.1 hgT hwm rfl rfl ⟨hnm, hd⟩ ⟨?_, ?_⟩) ⟨ev_blind _ _ _, va_recv X.2.1.2.1 X.2.2.2.1 hcl hq, ?_⟩ rfl (by rw [List.length_map]; exact hn) hz ?_ ?_ h ⟨?_, ?_⟩ T hT Y
  · show d' + 6 + 1 ≤ R.frames; have := X.rm; omega
  · show 8 + (ev_ml μ' + 11) + (30 * d' + 300) ≤ R.locals; have := X.rm; omega
  · intro U hU hW
    exact ⟨rfl, ⟨by rw [hU]; exact Nat.le_trans X.2.1.2.2.2 X.2.2.2.2.1, by rw [hU]; exact X.2.2.2.1, va_K.moved hW.alike X.2.1.2.1, by rw [hU]; exact X.2.1.2.2.1.next hW X.2.2.2.2⟩, X.lw⟩
  · simp [ev_c]
  · exact lv_room (by rw [ev_cats hfm]; exact hcat)
  · have := X.rm; omega
  · have := X.rm; omega
end Jc
