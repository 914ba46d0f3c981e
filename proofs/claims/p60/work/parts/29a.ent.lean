/-! ===== an entry of a method that has no row among the natives ===== -/
theorem vx_ofWF {l : Launch} {y : MethodName} {ws ws' : List Cond} {rm : Room} {Pc : Array Value → State → Prop} {Qc : Array Value → State → Outcome → State → Prop} {XC : String → State → State → Prop} {mc ms : Nat} {free : Addr → Prop} {cc : ByteArray} {maxL : Nat} {ret : Option FieldType}
    (hy : plainFor y = true) (hw : ws = Cond.code y cc maxL ret :: ws')
    (body : ∀ p e s m args below meth c s₁, BodyLoose p l y (headSpec ws rm) cc maxL ret e s m args below meth c s₁ → c.maxLocals = maxL → (∀ x ∈ c.exceptionTable.toList, False) → Pc args s →
      W p l e (headSpec ws rm).room s m args below meth c s.heap [] 0 0 (vx_MQ below Qc XC args s mc ms free) (entryFrame m args maxL)) : vx_Met l y ws rm Pc Qc XC mc ms free := by
  refine MetFree.of_bodySF (code := cc) (maxLocals := maxL) (ret := ret) hy ?_ ?_
  · intro args s m h hn
    obtain ⟨meth, c, h1, h2, h3, h4, h5, h6, -, -⟩ := Cond.code_spec hn (atoms_spec (ws := ws) h _ (by rw [hw]; exact List.mem_cons_self))
    exact ⟨meth, c, h1, h2, h3, h4, h5, h6⟩
  · intro p e s m args below meth c s₁ B hml hP _
    have hh0 : s₁.heap = s.heap := by rw [B.state]; rfl
    have ht : ∀ x ∈ c.exceptionTable.toList, False := by
      obtain ⟨meth9, c9, h1, h2, -, -, -, -, h7, -⟩ := Cond.code_spec B.named (atoms_spec (ws := ws) B.pre _ (by rw [hw]; exact List.mem_cons_self))
      cases Option.some.inj (h1.symm.trans B.method)
      cases Option.some.inj (h2.symm.trans (Stand.of_body B).code)
      intro x hx
      rw [Array.isEmpty_iff.mp h7] at hx
      cases hx
    obtain ⟨t, a1, o, b1, b2, b3⟩ := body p e s m args below meth c s₁ B hml ht hP s₁ hh0 (Stand.of_body B)
    exact ⟨t, o, a1, b1, b2, b3⟩
theorem ev_enterF {g : ev_G} {μ : ev_M} {d B : Nat} {args : List ev_V} {S : ev_S} {Q : ev_O → ev_S → Prop} (hpn : plainFor (ev_mn μ) = true) (hh : (ev_hh μ).isEmpty = true) (how : (ev_mn μ).cls = ev_own μ) (hw : args.all (fun v => ev_w v == 1) = true) (hlen : args.length ≤ ev_ml μ)
    (h : ev_E g μ d B 0 (ev_in μ args) [] S Q) : ev_Cv g μ d B args S Q := by
  intro hok l hl
  have hw1 : ∀ v ∈ args, ev_w v = 1 := fun v hv => by
    have := List.all_eq_true.mp hw v hv
    simpa using this
  have key : ∀ p e s m as below meth c s₁, BodyLoose p l (ev_mn μ) (headSpec (ev_wm μ) (ev_rm d B)) (ev_by μ) (ev_ml μ) (ev_rt μ) e s m as below meth c s₁ → c.maxLocals = ev_ml μ → c.exceptionTable.toList = tableOf (ev_hh μ) → ev_Pc g args S as s →
      W p l e (headSpec (ev_wm μ) (ev_rm d B)).room s m as below meth c s.heap [] 0 0 (vx_MQ below (ev_Qc g S.2.1 Q) (ev_XC g S.2.1 Q) as s B (6 * B) (ev_A g)) (entryFrame m as (ev_ml μ)) := by
    intro p e s m as below meth c s₁ Bd hml htb hp
    obtain ⟨rfl, ⟨hb, hP, hK, hJ⟩, hlw⟩ := hp
    have hfm : (ev_fm g).category = 1 := hJ.2.2.2.2.2.2.2.1
    have hts := atoms_spec (ws := ev_wm μ) Bd.pre
    have hown : s.vm.findClass (ev_own μ) = some m.cls := by rw [← how]; exact findClass_of_methodNamed Bd.named
    have hlen2 : (lg_sl (args.map (ev_c g))).length ≤ ev_ml μ := by rw [ev_sl1 hfm args hw1, List.length_map]; exact hlen
    have hle := lv_entry (args.map (ev_c g)) hlen2
    rw [lg_entry_eq]
    refine h l p e _ s m _ below meth c s.heap [] 0 0 B (6 * B) S.2.1 _ ⟨⟨Bd.exec, Bd.bytes, Bd.returns, hml, hown, Bd.notSynchronized, htb, hl⟩, ⟨fun w hw => hts w (List.mem_cons_of_mem _ hw), hK, hJ, hb⟩, ⟨Nat.le_refl _, Nat.le_refl _, Nat.le_refl _, Nat.le_refl _, by omega, by omega, List.suffix_refl _, hlw, (name_of_methodNamed Bd.named Bd.method).1⟩, hP, va_S.rf⟩ ?_ hle.1 (fun v hv => by cases hv)
    have hlt : (ev_in μ args).length = ev_ml μ := by simp [ev_in]; omega
    refine ⟨hle.1.trans hlt.symm, hle.2.1, fun i v hi => ?_⟩
    have hi2 : args[i]? = some v := by
      rw [ev_in] at hi
      by_cases hlt2 : i < args.length
      · rw [List.getElem?_append_left (by rw [List.length_map]; exact hlt2), List.getElem?_map] at hi
        cases h3 : args[i]? with
        | none => rw [h3] at hi; cases hi
        | some z => rw [h3] at hi; cases hi; rfl
      · rw [List.getElem?_append_right (by rw [List.length_map]; omega), List.getElem?_replicate] at hi
        split at hi <;> cases hi
    refine ⟨?_, hok v (List.mem_of_getElem? hi2)⟩
    refine hle.2.2 (i, ev_c g v) ?_
    have := ev_args hfm args 0 hw1 i v hi2
    rwa [Nat.zero_add] at this
  refine vx_ofWF (cc := ev_by μ) (maxL := ev_ml μ) (ret := ev_rt μ) (ws' := ev_gw) hpn (by simp only [ev_wm, hh, if_true]) ?_
  intro p e s m as below meth c s₁ Bd hml ht hp
  refine key p e s m as below meth c s₁ Bd hml ?_ hp
  rw [List.isEmpty_iff.mp hh]
  cases h5 : c.exceptionTable.toList with
  | nil => rfl
  | cons z zs => exact absurd (h5 ▸ List.mem_cons_self : z ∈ c.exceptionTable.toList) (fun q => ht z q)
