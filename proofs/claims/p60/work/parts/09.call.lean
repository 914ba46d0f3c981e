/-! ===== contracts over the one world; returns; calls ===== -/
theorem ev_J.same {g : ev_G} {u U : State} {H : Heap} (hv : u.vm = U.vm) (h : ev_J g u H) : ev_J g U H := by
  obtain ⟨⟨h1, h2, h3, h3o, h3f, k1, k2, k3⟩, ⟨h4, h5⟩, h6, h7, h8, h9, h10, h11, k4, k5, k6, k7⟩ := h
  have ha : u.vm.Alike U.vm := by rw [hv]; exact Vm.Alike.refl _
  exact ⟨⟨fun q hq => va_Nw.same rfl hv (h1 q hq), fun q hq => vk_R.same hv.symm (h2 q hq), fun q hq => va_Nc.moved ha (h3 q hq), fun w hw => ev_ow_moved (List.mem_filter.mp hw).2 ha (h3o w hw), fun q hq => va_Nw.same rfl hv (h3f q hq), va_AO.moved ha k1, va_AO.moved ha k2, va_AO.moved ha k3⟩, ⟨vx_Zq.moved ha h4, vx_Zq.moved ha h5⟩, va_Z.moved ha h6, va_Z.moved ha h7,
    fun i hi => ⟨va_O.moved ha (h8 i hi).1, va_OF.moved ha (h8 i hi).2.1, va_OF.moved ha (h8 i hi).2.2.1, va_T.moved ha (h8 i hi).2.2.2⟩, va_X.moved ha h9, h10, h11, va_Z.moved ha k4, va_Z.moved ha k5, va_T.moved ha k6, va_T.moved ha k7⟩
theorem ev_J.next {g : ev_G} {s U : State} {H : Heap} {locs : List Loc} (hW : s.WarmedH U.vm) (hS : va_S (ev_A g) s.heap H locs) (h : ev_J g s s.heap) : ev_J g U H := by
  obtain ⟨⟨h1, h2, h3, h3o, h3f, k1, k2, k3⟩, ⟨h4, h5⟩, h6, h7, h8, h9, h10, h11, k4, k5, k6, k7⟩ := h
  have ha := hW.alike
  have hk : ∀ a : Nat, a < s.heap.size → ¬ ev_A g a → H[a]? = s.heap[a]? := fun a q1 q2 => hS.2.1 a q1 q2
  have hb : H[ev_sb g]? = s.heap[ev_sb g]? := by
    obtain ⟨scr, e1, -⟩ := h9
    exact hk _ (Array.getElem?_eq_some_iff.mp e1).1 h10
  exact ⟨⟨fun q hq => va_Nw.warmM hW (h1 q hq), fun q hq => vk_R.warm hW (h2 q hq), fun q hq => va_Nc.moved ha (h3 q hq), fun w hw => ev_ow_moved (List.mem_filter.mp hw).2 ha (h3o w hw), fun q hq => va_Nw.warmF hW (h3f q hq), va_AO.moved ha k1, va_AO.moved ha k2, va_AO.moved ha k3⟩, ⟨(vx_Zq.moved ha h4).kept hk, (vx_Zq.moved ha h5).kept hk⟩, (va_Z.moved ha h6).kept hk, (va_Z.moved ha h7).kept hk,
    fun i hi => ⟨(va_O.moved ha (h8 i hi).1).kept hk, (va_OF.moved ha (h8 i hi).2.1).kept hk, (va_OF.moved ha (h8 i hi).2.2.1).kept hk, (va_T.moved ha (h8 i hi).2.2.2).kept hk⟩, (va_X.moved ha h9).kept hb, h10, h11, (va_Z.moved ha k4).kept hk, (va_Z.moved ha k5).kept hk, (va_T.moved ha k6).kept hk, (va_T.moved ha k7).kept hk⟩
def ev_Pc (g : ev_G) (args : List ev_V) (S : ev_S) : Array Value → State → Prop := va_Pc (args.map (ev_c g)) (fun U => ev_W g S U U.heap ∧ ev_lw g S.2.1)
theorem ev_blind (g : ev_G) (args : List ev_V) (S : ev_S) : FrameBlind (ev_Pc g args S) := by
  intro a U q mk ⟨h1, ⟨h2, h3, h4, h5⟩, h6⟩
  exact ⟨h1, ⟨h2, h3, va_K.moved (u := U) (U := U.calling q mk a) (Vm.Alike.refl U.vm) h4, ev_J.same (u := U) (U := U.calling q mk a) rfl h5⟩, h6⟩
/-- the method, called with these values over this memory, ends as Q says -/
def ev_Cv (g : ev_G) (μ : ev_M) (d B : Nat) (args : List ev_V) (S : ev_S) (Q : ev_O → ev_S → Prop) : Prop :=
  (∀ v ∈ args, ev_ok g S.2.1 v) → ∀ l : Launch, l.stackTraces = false → vx_Met l (ev_mn μ) (ev_wm μ) (ev_rm d B) (ev_Pc g args S) (ev_Qc g S.2.1 Q) (ev_XC g S.2.1 Q) B (6 * B) (ev_A g)
/-- the locals at the entry -/
def ev_in (μ : ev_M) (args : List ev_V) : List (Option ev_V) := args.map some ++ List.replicate (ev_ml μ - args.length) none
theorem ev_args {g : ev_G} (hf : (ev_fm g).category = 1) : ∀ (args : List ev_V) (i : Nat), (∀ v ∈ args, ev_w v = 1) → ∀ (k : Nat) (v : ev_V), args[k]? = some v → (i + k, ev_c g v) ∈ lv_args i (args.map (ev_c g)) := by
  intro args
  induction args with
  | nil => intro i _ k v h; simp at h
  | cons w ws ih =>
    intro i h k v hk
    have h1 : ¬ (ev_c g w).category = 2 := by rw [ev_cat g w hf, h w List.mem_cons_self]; decide
    simp only [List.map_cons, lv_args, if_neg h1]
    cases k with
    | zero => simp at hk; subst hk; exact List.mem_cons_self
    | succ k =>
      refine List.mem_cons_of_mem _ ?_
      have := ih (i + 1) (fun w hw => h w (List.mem_cons_of_mem _ hw)) k v (by simpa using hk)
      rwa [show i + 1 + k = i + (k + 1) by omega] at this
theorem ev_sl1 {g : ev_G} (hf : (ev_fm g).category = 1) : ∀ (args : List ev_V), (∀ v ∈ args, ev_w v = 1) → lg_sl (args.map (ev_c g)) = args.map (fun v => Slot.val (ev_c g v)) := by
  intro args
  induction args with
  | nil => intro _; rfl
  | cons v vs ih =>
    intro h
    have h1 : ¬ (ev_c g v).category = 2 := by rw [ev_cat g v hf, h v List.mem_cons_self]; decide
    have := ih (fun w hw => h w (List.mem_cons_of_mem _ hw))
    simp only [List.map_cons, lg_sl, List.flatMap_cons, if_neg h1] at this ⊢
    rw [this]; rfl
theorem ev_enter {g : ev_G} {μ : ev_M} {d B : Nat} {args : List ev_V} {S : ev_S} {Q : ev_O → ev_S → Prop} (hpn : plainName (ev_mn μ).cls = true) (how : (ev_mn μ).cls = ev_own μ) (hw : args.all (fun v => ev_w v == 1) = true) (hlen : args.length ≤ ev_ml μ)
    (h : ev_E g μ d B 0 (ev_in μ args) [] S Q) : ev_Cv g μ d B args S Q := by
  intro hok l hl
  have hw1 : ∀ v ∈ args, ev_w v = 1 := fun v hv => by
    have := List.all_eq_true.mp hw v hv
    simpa using this
  have key : ∀ p e s m as below meth c s₁, BodyLoose p l (ev_mn μ) (headSpec (ev_wm μ) (ev_rm d B)) (ev_by μ) (ev_ml μ) (ev_rt μ) e s m as below meth c s₁ → c.maxLocals = ev_ml μ → c.exceptionTable.toList = tableOf (ev_hh μ) → ev_Pc g args S as s →
      W p l e (headSpec (ev_wm μ) (ev_rm d B)).room s m as below meth c s.heap [] 0 0 (vx_MQ below (ev_Qc g S.2.1 Q) (ev_XC g S.2.1 Q) as s B (6 * B) (ev_A g)) (entryFrame m as (ev_ml μ)) := by
    intro p e s m as below meth c s₁ Bd hml htb hp
    obtain ⟨rfl, ⟨hb, hP, hK, hJ⟩, hlw⟩ := hp
    have hfm : (ev_fm g).category = 1 := hJ.2.2.2.2.2.2.2.1
    have hts := atoms_spec (ws := ev_wm μ) Bd.pre
    have hown : s.vm.findClass (ev_own μ) = some m.cls := by rw [← how]; exact findClass_of_methodNamed Bd.named
    have hlen2 : (lg_sl (args.map (ev_c g))).length ≤ ev_ml μ := by rw [ev_sl1 hfm args hw1, List.length_map]; exact hlen
    have hle := lv_entry (args.map (ev_c g)) hlen2
    rw [lg_entry_eq]
    refine h l p e _ s m _ below meth c s.heap [] 0 0 B (6 * B) S.2.1 _ ⟨⟨Bd.exec, Bd.bytes, Bd.returns, hml, hown, Bd.notSynchronized, htb, hl⟩, ⟨fun w hw => hts w (List.mem_cons_of_mem _ hw), hK, hJ, hb⟩, ⟨Nat.le_refl _, Nat.le_refl _, Nat.le_refl _, Nat.le_refl _, by omega, by omega, List.suffix_refl _, hlw, (name_of_methodNamed Bd.named Bd.method).1⟩, hP, va_S.rf⟩ ?_ hle.1 (fun v hv => by cases hv)
    have hlt : (ev_in μ args).length = ev_ml μ := by simp [ev_in]; omega
    refine ⟨hle.1.trans hlt.symm, hle.2.1, fun i v hi => ?_⟩
    have hi2 : args[i]? = some v := by
      rw [ev_in] at hi
      by_cases hlt2 : i < args.length
      · rw [List.getElem?_append_left (by rw [List.length_map]; exact hlt2), List.getElem?_map] at hi
        cases h3 : args[i]? with
        | none => rw [h3] at hi; cases hi
        | some z => rw [h3] at hi; cases hi; rfl
      · rw [List.getElem?_append_right (by rw [List.length_map]; omega), List.getElem?_replicate] at hi
        split at hi <;> cases hi
    refine ⟨?_, hok v (List.mem_of_getElem? hi2)⟩
    refine hle.2.2 (i, ev_c g v) ?_
    have := ev_args hfm args 0 hw1 i v hi2
    rwa [Nat.zero_add] at this
  by_cases hh : (ev_hh μ).isEmpty = true
  · refine vx_ofW (cc := ev_by μ) (maxL := ev_ml μ) (ret := ev_rt μ) (ws' := ev_gw) hpn (by simp only [ev_wm, hh, if_true]) ?_
    intro p e s m as below meth c s₁ Bd hml ht hp
    refine key p e s m as below meth c s₁ Bd hml ?_ hp
    rw [List.isEmpty_iff.mp hh]
    cases h5 : c.exceptionTable.toList with
    | nil => rfl
    | cons z zs => exact absurd (h5 ▸ List.mem_cons_self : z ∈ c.exceptionTable.toList) (fun q => ht z q)
  · refine vx_ofWH (cc := ev_by μ) (maxL := ev_ml μ) (ret := ev_rt μ) (hh := ev_hh μ) (ws' := ev_gw) hpn (by simp only [ev_wm, hh]; rfl) ?_
    intro p e s m as below meth c s₁ Bd hml hp
    refine key p e s m as below meth c s₁ Bd hml ?_ hp
    exact vx_table (x := ev_mn μ) Bd (atoms_spec (ws := ev_wm μ) Bd.pre (Cond.codeWith (ev_mn μ) (ev_by μ) (ev_ml μ) (ev_rt μ) (ev_hh μ)) (by simp only [ev_wm, hh]; exact List.mem_cons_self))
