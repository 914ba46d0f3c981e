/-! ===== rows: calls ===== -/
/-- what the callee's word is -/
abbrev ev_cd (μ : ev_M) : Cond := if (ev_hh μ).isEmpty then Cond.code (ev_mn μ) (ev_by μ) (ev_ml μ) (ev_rt μ) else Cond.codeWith (ev_mn μ) (ev_by μ) (ev_ml μ) (ev_rt μ) (ev_hh μ)
theorem ev_gw_good {w : Cond} (h : w ∈ ev_gw) : (w.onTables && w.keeps) = true ∨ ∃ ty, w = .arrayClass ty := good_of_word (List.mem_filter.mp h).2
theorem ev_good {μ : ev_M} (h : ev_cd μ ∈ ev_gw) : GoodIn ev_gw (ev_wm μ) := by
  intro w hw
  rcases List.mem_cons.mp hw with rfl | hw
  · exact ⟨h, ev_gw_good h⟩
  · exact ⟨hw, ev_gw_good hw⟩
theorem ev_wm_nil {μ : ev_M} (h : ev_hh μ = []) : ev_wm μ = Cond.code (ev_mn μ) (ev_by μ) (ev_ml μ) (ev_rt μ) :: ev_gw := by simp [ev_wm, h]
theorem ev_cd_nil {μ : ev_M} (h : ev_hh μ = []) : ev_cd μ = Cond.code (ev_mn μ) (ev_by μ) (ev_ml μ) (ev_rt μ) := by simp [h]
section EvInv
variable {g : ev_G} {μ : ev_M} {d B pc : Nat} {L : List (Option ev_V)} {K : List ev_V} {S : ev_S} {Q : ev_O → ev_S → Prop}
/-- from the callee's end on -/
theorem ev_L_up {Λ Λ' : ev_Y} {ls : Array Slot} (h : Λ <:+ Λ') (hL : ev_L g Λ L ls) : ev_L g Λ' L ls :=
  ⟨hL.1, hL.2.1, fun i v hi => ⟨(hL.2.2 i v hi).1, ev_ok_up h (hL.2.2 i v hi).2⟩⟩
theorem ev_cont {B' : Nat} {args' : Array Value} {Q' : ev_O → ev_S → Prop} {l : Launch} {p : Program} {e : Env} {R : Room} {s : State} {m : MethodId} {args : Array Value} {below : List Frame} {meth : Method} {c : Code} {H : Heap} {locs : List Loc} {cells slots mc ms : Nat} {Λ : ev_Y} {ls : Array Slot} {st0 : List Value}
    (hB : B' ≤ B) (X : ev_X g μ d B S l p R s m args meth c H locs cells slots mc ms Λ) (hL : ev_L g S.2.1 L ls) (hz : ls.size = ev_ml μ) (hK : ∀ v ∈ K, ev_ok g S.2.1 v)
    (hr : vx_Run p l e R s m args below meth c H locs cells slots B' (6 * B') (F0 m pc ls st0) (K.map (ev_c g)) (ev_Qc g S.2.1 Q' args') (ev_XC g S.2.1 Q') (ev_A g))
    (kk : ∀ o S', Q' o S' → ev_After g μ d (B - B') pc L K S' Q o) : W p l e R s m args below meth c H locs cells slots (vx_MQ below (ev_Qc g Λ Q) (ev_XC g Λ Q) args s mc ms (ev_A g)) (F0 m pc ls st0) := by
  intro T hT Y
  have X4 := X.rm
  have X5 := X.sx
  have X7 := X.nm
  obtain ⟨X1, X2, X3, hP, hS⟩ := X
  rcases hr T hT Y with ⟨v, st₀, t, T', Ls, h0, Y', hLs, e1, e2, ⟨ov, S', hv, hok, hq, hP', hF, hsx, hlw⟩, st⟩ | ⟨q, st₀, t, T', Ls, E, ce, h0, Y', hLs, e1, e2, ⟨k, S', hE, hk, hq, hP', hF, hsx, hlw⟩, hce, hcv, hcl, st⟩
  · obtain ⟨k1, k2, k3⟩ := vx_keep h0 e1 hS (fun q _ h => h) (fun q h => h) hLs hF
    have hv2 : v = ov.map (ev_c g) := by injection hv
    subst hv2
    have hX' : ev_X g μ d (B - B') S' l p R s m args meth c T'.heap (locs ++ Ls) (cells + B') (slots + 6 * B') mc ms Λ :=
      ⟨X1, X2, ⟨X3.1, X3.2.1, X3.2.2.1, X3.2.2.2.1, by omega, by omega, X5.trans hsx, hlw, X7⟩, by rw [e1]; exact hP', k3⟩
    have ka := kk _ _ hq
    cases ov with
    | none =>
      obtain ⟨t2, a1, b1⟩ := ka l p e R s m args below meth c T'.heap (locs ++ Ls) (cells + B') (slots + 6 * B') mc ms Λ ls hX' (ev_L_up hsx hL) hz (fun v hv => ev_ok_up hsx (hK v hv)) T' rfl Y'
      exact ⟨t2, st t2 a1, b1⟩
    | some u =>
      obtain ⟨t2, a1, b1⟩ := ka l p e R s m args below meth c T'.heap (locs ++ Ls) (cells + B') (slots + 6 * B') mc ms Λ ls hX' (ev_L_up hsx hL) hz (List.forall_mem_cons.mpr ⟨hok u rfl, fun v hv => ev_ok_up hsx (hK v hv)⟩) T' rfl Y'
      exact ⟨t2, st t2 a1, b1⟩
  · obtain ⟨k1, k2, k3⟩ := vx_keep h0 e1 hS (fun q _ h => h) (fun q h => h) hLs hF
    have hX' : ev_X g μ d (B - B') S' l p R s m args meth c T'.heap (locs ++ Ls) (cells + B') (slots + 6 * B') mc ms Λ :=
      ⟨X1, X2, ⟨X3.1, X3.2.1, X3.2.2.1, X3.2.2.2.1, by omega, by omega, X5.trans hsx, hlw, X7⟩, by rw [e1]; exact hP', k3⟩
    have ka : ev_T g μ d (B - B') pc L S' k Q := kk _ _ hq
    obtain ⟨t2, a1, b1⟩ := ka l p e R s m args below meth c T'.heap (locs ++ Ls) (cells + B') (slots + 6 * B') mc ms Λ ls (K.map (ev_c g)) q ce hX' (ev_L_up hsx hL) hz (by rw [e1]; exact hce) hcv (hE ▸ hcl) T' rfl Y'
    exact ⟨t2, st.trans a1, b1⟩
theorem ev_cats {g : ev_G} (hf : (ev_fm g).category = 1) (K : List ev_V) : ((K.map (ev_c g)).map fun v => v.category).sum = (K.map ev_w).sum := by
  rw [List.map_map]
  congr 1
  exact List.map_congr_left (fun v _ => ev_cat g v hf)
/-- a method of the receiver's own class -/
theorem ev_callV (μ' : ev_M) (d' B' index ci : Nat) {C : String} {T : u_T} {N n a : Nat} (As : List ev_V) {Q' : ev_O → ev_S → Prop} (h : decode (ev_by μ) pc = .ok (.invokevirtual index, 3)) (hhh : ev_hh μ' = []) (hcl : ev_cl[ci]? = some (C, T, N)) (hci : ci < 16)
    (hw1 : Cond.methodLink (ev_own μ) index (ev_mn μ') ∈ ev_gw) (hw2 : Cond.instanceMethod (ev_mn μ') ∈ ev_gw) (hw3 : Cond.selects C (ev_mn μ') (ev_mn μ') ∈ ev_gw) (hw4 : Cond.initialized C ∈ ev_gw) (hw5 : ev_cd μ' ∈ ev_gw)
    (hd : (ev_mn μ').cls = C ∧ (ev_mn μ').cls ≠ "java/lang/invoke/MethodHandle" ∧ (ev_mn μ').cls ≠ "java/lang/invoke/VarHandle" ∧ (parseMethodDescriptor (ev_mn μ').desc).map (fun d => d.parameters.length) = some n) (hn : As.length = n)
    (hdd : d' + 1 ≤ d) (hB : B' ≤ B) (hml : ev_ml μ' ≤ 11) (hcat : (K.map ev_w).sum ≤ 8) (hM : ev_Cv g μ' d' B' (ev_o ci a :: As) S Q') (kk : ∀ o S', Q' o S' → ev_After g μ d (B - B') pc L K S' Q o) : ev_E g μ d B pc L (As.reverse ++ ev_o ci a :: K) S Q := by
  intro l p e R s m args below meth c H locs cells slots mc ms Λ ls X hL hz hK
  have hfm := X.fm
  have hK2 : ∀ v ∈ K, ev_ok g S.2.1 v := fun v hv => hK v (List.mem_append_right _ (List.mem_cons_of_mem _ hv))
  have h0 : ev_at g S.2.1 (ci, 0) a := by
    have := hK _ (List.mem_append_right _ List.mem_cons_self)
    simpa [ev_ok, ev_ko, hci] using this
  obtain ⟨q, hq⟩ := ev_get_ws (S := S) h0
  simp only [ev_en, hci, if_true] at hq
  have hoa : ∀ v ∈ ev_o ci a :: As, ev_ok g S.2.1 v := fun v hv => hK v (by
    rcases List.mem_cons.mp hv with rfl | hv
    · exact List.mem_append_right _ List.mem_cons_self
    · exact List.mem_append_left _ (List.mem_reverse.mpr hv))
  have hg := ev_good hw5
  have hwm := ev_wm_nil hhh
  have hgT : GoodIn ev_gw (wsV (ev_own μ) index C (ev_mn μ') (ev_wm μ')) := by
    intro w h9
    unfold wsV at h9
    rcases List.mem_append.mp h9 with h9 | h9
    · have : w ∈ ev_gw := by
        simp only [List.mem_cons, List.not_mem_nil, or_false] at h9
        rcases h9 with rfl | rfl | rfl | rfl <;> assumption
      exact ⟨this, ev_gw_good this⟩
    · exact hg w h9
  refine ev_cont hB X hL hz hK2 (st0 := (As.reverse ++ ev_o ci a :: K).map (ev_c g)) (args' := (Value.ref a :: As.map (ev_c g)).toArray)
    (vx_runV (As := As.map (ev_c g)) (n := n) (nL := ev_ml μ) (C := C) (b := a) (ret := ev_rt μ') (maxL := ev_ml μ') (bytes := ev_by μ') ⟨X.1.1, X.1.2.1, X.1.2.2.2.1, X.1.2.2.2.2.1, X.2.1.1⟩ (hM hoa l X.1.2.2.2.2.2.2.2)
      (cwV n X.2.1.1 hgT hwm rfl rfl hd ⟨?_, ?_⟩) ⟨ev_blind _ _ _, va_recv X.2.1.2.1 X.2.2.2.1 hcl hq, ?_⟩ rfl (by rw [List.length_map]; exact hn) hz ?_ ?_ h ⟨?_, ?_⟩) kk
  · show d' + 6 + 1 ≤ R.frames; have := X.rm; omega
  · show 8 + (ev_ml μ' + 11) + (30 * d' + 300) ≤ R.locals; have := X.rm; omega
  · intro U hU hW
    exact ⟨rfl, ⟨by rw [hU]; exact Nat.le_trans X.2.1.2.2.2 X.2.2.2.2.1, by rw [hU]; exact X.2.2.2.1, va_K.moved hW.alike X.2.1.2.1, by rw [hU]; exact X.2.1.2.2.1.next hW X.2.2.2.2⟩, X.lw⟩
  · simp [ev_c]
  · exact lv_room (by rw [ev_cats hfm]; exact hcat)
  · have := X.rm; omega
  · have := X.rm; omega
/-- a static method of the own class -/
theorem ev_callS (μ' : ev_M) (d' B' index : Nat) {n : Nat} (As : List ev_V) {Q' : ev_O → ev_S → Prop} (h : decode (ev_by μ) pc = .ok (.invokestatic index, 3)) (hhh : ev_hh μ' = [])
    (hw1 : Cond.methodLink (ev_own μ) index (ev_mn μ') ∈ ev_gw) (hw2 : Cond.static (ev_mn μ') ∈ ev_gw) (hw4 : Cond.initialized (ev_mn μ').cls ∈ ev_gw) (hw5 : ev_cd μ' ∈ ev_gw)
    (hd : (ev_mn μ').cls ≠ "java/lang/invoke/MethodHandle" ∧ (ev_mn μ').cls ≠ "java/lang/invoke/VarHandle" ∧ (parseMethodDescriptor (ev_mn μ').desc).map (fun d => d.parameters.length) = some n) (hn : As.length = n)
    (hdd : d' + 1 ≤ d) (hB : B' ≤ B) (hml : ev_ml μ' ≤ 11) (hcat : (K.map ev_w).sum ≤ 8) (hM : ev_Cv g μ' d' B' As S Q') (kk : ∀ o S', Q' o S' → ev_After g μ d (B - B') pc L K S' Q o) : ev_E g μ d B pc L (As.reverse ++ K) S Q := by
  intro l p e R s m args below meth c H locs cells slots mc ms Λ ls X hL hz hK
  have hfm := X.fm
  have hK2 : ∀ v ∈ K, ev_ok g S.2.1 v := fun v hv => hK v (List.mem_append_right _ hv)
  have hoa : ∀ v ∈ As, ev_ok g S.2.1 v := fun v hv => hK v (List.mem_append_left _ (List.mem_reverse.mpr hv))
  have hg := ev_good hw5
  have hwm := ev_wm_nil hhh
  refine ev_cont hB X hL hz hK2 (st0 := (As.reverse ++ K).map (ev_c g)) (args' := (As.map (ev_c g)).toArray)
    (vx_runS (As := As.map (ev_c g)) (n := n) (nL := ev_ml μ) (ret := ev_rt μ') (maxL := ev_ml μ') (bytes := ev_by μ') ⟨X.1.1, X.1.2.1, X.1.2.2.2.1, X.1.2.2.2.2.1, X.2.1.1⟩ (hM hoa l X.1.2.2.2.2.2.2.2)
      ⟨callB_of n X.2.1.1 hg hwm rfl rfl (X.2.1.1 _ hw4) (X.2.1.1 _ hw1) hd ⟨?_, ?_⟩, X.2.1.1 _ hw2⟩ ⟨ev_blind _ _ _, ?_⟩ rfl (by rw [List.length_map]; exact hn) hz ?_ ?_ h ⟨?_, ?_⟩) kk
  · show d' + 6 + 1 ≤ R.frames; have := X.rm; omega
  · show 8 + (ev_ml μ' + 11) + (30 * d' + 300) ≤ R.locals; have := X.rm; omega
  · intro U hU hW
    exact ⟨rfl, ⟨by rw [hU]; exact Nat.le_trans X.2.1.2.2.2 X.2.2.2.2.1, by rw [hU]; exact X.2.2.2.1, va_K.moved hW.alike X.2.1.2.1, by rw [hU]; exact X.2.1.2.2.1.next hW X.2.2.2.2⟩, X.lw⟩
  · simp
  · exact lv_room (by rw [ev_cats hfm]; exact hcat)
  · have := X.rm; omega
  · have := X.rm; omega
/-- a private static method of a nest mate -/
theorem ev_callN (μ' : ev_M) (d' B' index : Nat) {n : Nat} {host : String} (As : List ev_V) {Q' : ev_O → ev_S → Prop} (h : decode (ev_by μ) pc = .ok (.invokestatic index, 3)) (hhh : ev_hh μ' = [])
    (hl : (ev_own μ, (index, (ev_mn μ', host))) ∈ ev_ne) (hw2 : Cond.static (ev_mn μ') ∈ ev_gw) (hw4 : Cond.initialized (ev_mn μ').cls ∈ ev_gw) (hw5 : ev_cd μ' ∈ ev_gw)
    (hd : (ev_mn μ').cls ≠ "java/lang/invoke/MethodHandle" ∧ (ev_mn μ').cls ≠ "java/lang/invoke/VarHandle" ∧ (parseMethodDescriptor (ev_mn μ').desc).map (fun d => d.parameters.length) = some n) (hn : As.length = n)
    (hdd : d' + 1 ≤ d) (hB : B' ≤ B) (hml : ev_ml μ' ≤ 11) (hcat : (K.map ev_w).sum ≤ 8) (hM : ev_Cv g μ' d' B' As S Q') (kk : ∀ o S', Q' o S' → ev_After g μ d (B - B') pc L K S' Q o) : ev_E g μ d B pc L (As.reverse ++ K) S Q := by
  intro l p e R s m args below meth c H locs cells slots mc ms Λ ls X hL hz hK
  have hfm := X.fm
  have hK2 : ∀ v ∈ K, ev_ok g S.2.1 v := fun v hv => hK v (List.mem_append_right _ hv)
  have hoa : ∀ v ∈ As, ev_ok g S.2.1 v := fun v hv => hK v (List.mem_append_left _ (List.mem_reverse.mpr hv))
  have hg := ev_good hw5
  have hwm := ev_wm_nil hhh
  refine ev_cont hB X hL hz hK2 (st0 := (As.reverse ++ K).map (ev_c g)) (args' := (As.map (ev_c g)).toArray)
    (vx_runSN (As := As.map (ev_c g)) (n := n) (nL := ev_ml μ) (ret := ev_rt μ') (maxL := ev_ml μ') (bytes := ev_by μ') (host := host) ⟨X.1.1, X.1.2.1, X.1.2.2.2.1, X.1.2.2.2.2.1, X.2.1.1⟩ (hM hoa l X.1.2.2.2.2.2.2.2)
      ⟨va_cnB n X.2.1.1 hg hwm rfl rfl (X.2.1.2.2.1.1.1 _ hl) (X.2.1.1 _ hw4) hd ⟨?_, ?_⟩, X.2.1.1 _ hw2, trivial⟩ ⟨ev_blind _ _ _, ?_⟩ rfl (by rw [List.length_map]; exact hn) hz ?_ ?_ h ⟨?_, ?_⟩) kk
  · show d' + 6 + 1 ≤ R.frames; have := X.rm; omega
  · show 8 + (ev_ml μ' + 11) + (30 * d' + 300) ≤ R.locals; have := X.rm; omega
  · intro U hU hW
    exact ⟨rfl, ⟨by rw [hU]; exact Nat.le_trans X.2.1.2.2.2 X.2.2.2.2.1, by rw [hU]; exact X.2.2.2.1, va_K.moved hW.alike X.2.1.2.1, by rw [hU]; exact X.2.1.2.2.1.next hW X.2.2.2.2⟩, X.lw⟩
  · simp
  · exact lv_room (by rw [ev_cats hfm]; exact hcat)
  · have := X.rm; omega
  · have := X.rm; omega
end EvInv
