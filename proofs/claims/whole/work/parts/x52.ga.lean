/-! ===== constructors: a constructor is called ===== -/
/-- what a caller must know of a constructor -/
def ct_Mi (μ' : ev_M) (n : Nat) : Prop := ev_hh μ' = [] ∧ ev_rt μ' = none ∧ (ev_mn μ').name = "<init>" ∧ Cond.initialized (ev_mn μ').cls ∈ ev_gw ∧ Cond.instanceMethod (ev_mn μ') ∈ ev_gw ∧ ev_cd μ' ∈ ev_gw ∧
  ((ev_mn μ').cls ≠ "java/lang/invoke/MethodHandle" ∧ (ev_mn μ').cls ≠ "java/lang/invoke/VarHandle" ∧ (parseMethodDescriptor (ev_mn μ').desc).map (fun d => d.parameters.length) = some n) ∧ ev_ml μ' ≤ 41
theorem ct_run {p : Program} {l : Launch} {e : Env} {R : Room} {s : State} {m : MethodId} {args : Array Value} {below : List Frame} {meth : Method} {c : Code} {H : Heap} {locs : List Loc} {cells slots : Nat} {ls : Array Slot}
    {g : ev_G} {μ' : ev_M} {own : String} {cc : ByteArray} {nL n : Nat} (I : ct_Mi μ' n) (k' q d' mc' ms' ic pc : Nat) (fs0 As rest : List Value) {Ex' : Heap → Prop} {Qc' : Array Value → State → Outcome → State → Prop} {fr' : Nat → Prop}
    (hx : p.tables.exec = Jvm.exec) (hb : c.code = cc) (hml : c.maxLocals = nL) (hsz : ls.size = nL) (hown : s.vm.findClass own = some m.cls) (hts : ∀ w ∈ ev_gw, w.before args s = true) (hJ : ct_J g s s.heap) (hst : l.stackTraces = false)
    (hS : va_S (ev_A g) s.heap H locs) (hbq : ev_b g ≤ q) (hz : H.size = q + 1) (ho : va_at (ev_D g) ev_cl (q, .inr (k', fs0)) H)
    (hEx : Ex' H) (hM : ct_Met g μ' k' q d' mc' ms' Ex' fs0 As Qc' fr') (hlk : (∃ host, (own, (ic, (ev_mn μ', host))) ∈ ev_ne) ∨ Cond.methodLink own ic (ev_mn μ') ∈ ev_gw) (hn : As.length = n)
    (hR : d' + 9 ≤ R.frames ∧ 60 * d' + 260 ≤ R.locals) (hcat : (rest.map fun v => v.category).sum ≤ 8) (hdg : decode cc pc = .ok (.invokespecial ic, 3)) (hf : cells + mc' ≤ R.cells ∧ slots + ms' ≤ R.slots) :
    va_Run p l e R s m args below meth c H locs cells slots mc' ms' (F0 m pc ls (As.reverse ++ .ref q :: rest)) rest (Qc' (Value.ref q :: As).toArray) fr' := by
  obtain ⟨hhh, hrt, hnm, w3, w4, w5, hd, hml'⟩ := I
  have hg := ev_good w5
  have hwm : ev_wm μ' = Cond.code (ev_mn μ') (ev_by μ') (ev_ml μ') none :: ev_gw := by rw [ev_wm_nil hhh, hrt]
  have hp : PreS s H (ct_Pc g Ex' k' q fs0 As) (.ref q :: As) := ⟨ct_blind, fun U hU hW => ⟨rfl, hbq, by rw [hU]; exact hz, by rw [hU]; exact ho, by rw [hU]; exact hJ.next hW hS, by rw [hU]; exact hEx⟩⟩
  have hRR : (ct_rm d' mc' ms').frames + 1 ≤ R.frames ∧ 8 + (ev_ml μ' + 11) + (ct_rm d' mc' ms').locals ≤ R.locals := ⟨by show d' + 8 + 1 ≤ R.frames; omega, by show 8 + (ev_ml μ' + 11) + (60 * d' + 200) ≤ R.locals; omega⟩
  rcases hlk with ⟨host, hl⟩ | hl
  · exact va_runIN (nL := nL) (n := n) (host := host) (bytes := ev_by μ') (maxL := ev_ml μ') ⟨hx, hb, hml, hown, hts⟩ (hM l hst) ⟨va_cnB n hts hg hwm rfl rfl (hJ.2.1.1.1 _ hl) (hts _ w3) hd hRR, hnm, hts _ w4⟩ hp rfl hn hsz rfl (lv_room hcat) hdg hf
  · exact va_runI (nL := nL) (n := n) (bytes := ev_by μ') (maxL := ev_ml μ') ⟨hx, hb, hml, hown, hts⟩ (hM l hst) (cwI n hts hg hwm rfl rfl (hts _ w3) (hts _ hl) (hts _ w4) hnm hd hRR) hp rfl hn hsz rfl (lv_room hcat) hdg hf
section CtChild
variable {g : ev_G} {μ : ev_M} {a k d mc ms : Nat} {Ex : Heap → Prop} {Qc : Array Value → State → Outcome → State → Prop} {fr : Nat → Prop} {pc : Nat} {L0 L : List (Nat × Value)} {K fs : List Value} {tl : ct_T} {cells slots : Nat}
/-- new C() -/
theorem ct_child0 {μ' : ev_M} (I : ct_Mi μ' 0) {C : String} {T : u_T} {N ik ic : Nat} (k' d' mc' ms' j : Nat) (fs0 : List Value) (tl' : ct_T) (ty0 : Nat → FieldType)
    (d0 : decode (ev_by μ) pc = .ok (.new ik, 3)) (d3 : decode (ev_by μ) (pc + 3) = .ok (.dup, 1)) (d4 : decode (ev_by μ) (pc + 4) = .ok (.invokespecial ic, 3))
    (hcl : ev_cl[k']? = some (C, T, N)) (hin : ∀ w ∈ u_ws C T N, w ∈ ev_gw) (hty : ∀ k, k < N → parseFieldDescriptor (T k).2.2.1 = some (ty0 k)) (hfs : ∀ j, j < N → defaultValue (ty0 j) = vp_V fs0 j)
    (w1 : Cond.classLink (ev_own μ) ik C ∈ ev_gw) (w2 : Cond.instantiable C N ∈ ev_gw) (w3 : Cond.initialized C ∈ ev_gw) (hlk : (∃ host, (ev_own μ, (ic, (ev_mn μ', host))) ∈ ev_ne) ∨ Cond.methodLink (ev_own μ) ic (ev_mn μ') ∈ ev_gw)
    (hM : ∀ q, ct_Met g μ' k' q d' mc' ms' (fun _ => True) fs0 [] (ct_Qc g tl' q) (fun x => q ≤ x)) (hj : tl.length + 1 = j) (hdd : d' + 1 ≤ d) (hcat : (K.map fun v => v.category).sum ≤ 7) (hlen : tl'.length = mc' + 1) (hc : cells + 1 + mc' ≤ mc) (hs : slots + N + ms' ≤ ms)
    (kk : ct_E g μ a k d mc ms Ex Qc fr (pc + 7) L (.ref (a + j) :: K) fs (tl ++ tl') (cells + 1 + mc') (slots + N + ms')) : ct_E g μ a k d mc ms Ex Qc fr pc L K fs tl cells slots := by
  intro l p e R s m args below meth c H locs ls X z o t S hl
  have hJ := X.2.1.2.1
  have hKn := hJ.1.1 k' _ hcl
  have hsz : s.heap.size = a + 1 := X.2.1.2.2.2.1
  have hab : ev_b g ≤ a := X.2.1.2.2.1
  have hR := X.2.2.1
  refine W.newcK X.1.1 X.1.2.1 X.1.2.2.2.2.1 (X.2.1.1 _ w1) (X.2.1.1 _ w2) (X.2.1.1 _ w3) (g := F0 m pc ls K) rfl d0 (by omega) (by omega) hKn.2.1 z fun H1 kC hkC e1 z1 o1 => ?_
  have hnew : va_at (ev_D g) ev_cl (a + 1 + tl.length, .inr (k', fs0)) H1 := ⟨_, hcl, (u_born ty0 X.2.1.1 hin hKn hkC e1 hty).to hfs⟩
  have hq : a + 1 + tl.length = a + j := by omega
  rw [hq] at hnew z1 o1 ⊢
  have S1 : va_S (fun q => a ≤ q) s.heap H1 locs := ⟨Nat.le_trans S.1 (by omega), fun q h1 h2 => (o1 q (by omega)).trans (S.2.1 q h1 h2), S.2.2⟩
  refine lv_dup X.1.1 X.1.2.1 d3 rfl ?_
  refine ct_cont (ct_run I k' (a + j) d' mc' ms' ic (pc + 4) fs0 [] (.ref (a + j) :: K) X.1.1 X.1.2.1 X.1.2.2.2.1 hl.1 X.1.2.2.2.2.1 X.2.1.1 hJ X.1.2.2.2.2.2.2.2.1 (ct_S hab S1) (by omega) z1 hnew trivial (hM (a + j)) hlk rfl ⟨by omega, by omega⟩ (by show 1 + (K.map fun v => v.category).sum ≤ 8; omega) d4 ⟨by omega, by omega⟩) fun v st₀ u T' Ls h0 e9 hLs _ hQ => ?_
  obtain ⟨hv, hsz2, hP2, hF⟩ := hQ
  have hv : v = none := by injection hv
  subst hv
  have keep : ∀ q, q < a + j → T'.heap[q]? = H[q]? := fun q hq => by
    rw [e9, hF.2 q (by rw [h0, z1]; omega) (Nat.not_le.mpr hq), h0]
    exact o1 q hq
  rw [← e9] at hsz2 hP2
  exact kk l p e R s m args below meth c T'.heap (locs ++ Ls) ls X (by rw [hsz2, List.length_append]; omega) (o.kept (keep _ (by show a < a + j; omega))) ((t.kept (fun q h1 h2 => keep q (by omega))).app hP2 (by omega))
    ⟨by rw [hsz2]; omega, fun q h1 h2 => (keep q (by omega)).trans (S.2.1 q h1 h2), fun q hq => (List.mem_append.mp hq).elim (S.2.2 q) (fun h => Nat.le_trans (Nat.le_add_right a j) (hLs q h))⟩ hl
/-- new C(x), x a constant -/
theorem ct_child1 {μ' : ev_M} (I : ct_Mi μ' 1) {C : String} {T : u_T} {N ik ic : Nat} {n : Int} (x : Int32) (k' d' mc' ms' j : Nat) (fs0 : List Value) (tl' : ct_T) (ty0 : Nat → FieldType)
    (d0 : decode (ev_by μ) pc = .ok (.new ik, 3)) (d3 : decode (ev_by μ) (pc + 3) = .ok (.dup, 1)) (d4 : decode (ev_by μ) (pc + 4) = .ok (.iconst n, 1)) (d5 : decode (ev_by μ) (pc + 5) = .ok (.invokespecial ic, 3)) (hx : Int32.ofInt n = x)
    (hcl : ev_cl[k']? = some (C, T, N)) (hin : ∀ w ∈ u_ws C T N, w ∈ ev_gw) (hty : ∀ k, k < N → parseFieldDescriptor (T k).2.2.1 = some (ty0 k)) (hfs : ∀ j, j < N → defaultValue (ty0 j) = vp_V fs0 j)
    (w1 : Cond.classLink (ev_own μ) ik C ∈ ev_gw) (w2 : Cond.instantiable C N ∈ ev_gw) (w3 : Cond.initialized C ∈ ev_gw) (hlk : (∃ host, (ev_own μ, (ic, (ev_mn μ', host))) ∈ ev_ne) ∨ Cond.methodLink (ev_own μ) ic (ev_mn μ') ∈ ev_gw)
    (hM : ∀ q, ct_Met g μ' k' q d' mc' ms' (fun _ => True) fs0 [.int x] (ct_Qc g tl' q) (fun x => q ≤ x)) (hj : tl.length + 1 = j) (hdd : d' + 1 ≤ d) (hcat : (K.map fun v => v.category).sum ≤ 7) (hlen : tl'.length = mc' + 1) (hc : cells + 1 + mc' ≤ mc) (hs : slots + N + ms' ≤ ms)
    (kk : ct_E g μ a k d mc ms Ex Qc fr (pc + 8) L (.ref (a + j) :: K) fs (tl ++ tl') (cells + 1 + mc') (slots + N + ms')) : ct_E g μ a k d mc ms Ex Qc fr pc L K fs tl cells slots := by
  intro l p e R s m args below meth c H locs ls X z o t S hl
  have hJ := X.2.1.2.1
  have hKn := hJ.1.1 k' _ hcl
  have hsz : s.heap.size = a + 1 := X.2.1.2.2.2.1
  have hab : ev_b g ≤ a := X.2.1.2.2.1
  have hR := X.2.2.1
  refine W.newcK X.1.1 X.1.2.1 X.1.2.2.2.2.1 (X.2.1.1 _ w1) (X.2.1.1 _ w2) (X.2.1.1 _ w3) (g := F0 m pc ls K) rfl d0 (by omega) (by omega) hKn.2.1 z fun H1 kC hkC e1 z1 o1 => ?_
  have hnew : va_at (ev_D g) ev_cl (a + 1 + tl.length, .inr (k', fs0)) H1 := ⟨_, hcl, (u_born ty0 X.2.1.1 hin hKn hkC e1 hty).to hfs⟩
  have hq : a + 1 + tl.length = a + j := by omega
  rw [hq] at hnew z1 o1 ⊢
  have S1 : va_S (fun q => a ≤ q) s.heap H1 locs := ⟨Nat.le_trans S.1 (by omega), fun q h1 h2 => (o1 q (by omega)).trans (S.2.1 q h1 h2), S.2.2⟩
  refine lv_dup X.1.1 X.1.2.1 d3 rfl ?_
  refine lv_iconst X.1.1 X.1.2.1 d4 hx ?_
  refine ct_cont (ct_run I k' (a + j) d' mc' ms' ic (pc + 5) fs0 [.int x] (.ref (a + j) :: K) X.1.1 X.1.2.1 X.1.2.2.2.1 hl.1 X.1.2.2.2.2.1 X.2.1.1 hJ X.1.2.2.2.2.2.2.2.1 (ct_S hab S1) (by omega) z1 hnew trivial (hM (a + j)) hlk rfl ⟨by omega, by omega⟩ (by show 1 + (K.map fun v => v.category).sum ≤ 8; omega) d5 ⟨by omega, by omega⟩) fun v st₀ u T' Ls h0 e9 hLs _ hQ => ?_
  obtain ⟨hv, hsz2, hP2, hF⟩ := hQ
  have hv : v = none := by injection hv
  subst hv
  have keep : ∀ q, q < a + j → T'.heap[q]? = H[q]? := fun q hq => by
    rw [e9, hF.2 q (by rw [h0, z1]; omega) (Nat.not_le.mpr hq), h0]
    exact o1 q hq
  rw [← e9] at hsz2 hP2
  exact kk l p e R s m args below meth c T'.heap (locs ++ Ls) ls X (by rw [hsz2, List.length_append]; omega) (o.kept (keep _ (by show a < a + j; omega))) ((t.kept (fun q h1 h2 => keep q (by omega))).app hP2 (by omega))
    ⟨by rw [hsz2]; omega, fun q h1 h2 => (keep q (by omega)).trans (S.2.1 q h1 h2), fun q hq => (List.mem_append.mp hq).elim (S.2.2 q) (fun h => Nat.le_trans (Nat.le_add_right a j) (hLs q h))⟩ hl
end CtChild
