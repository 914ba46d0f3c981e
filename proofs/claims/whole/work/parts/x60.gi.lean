/-! ===== the claim, out of the walk of the law (from the kit: laws/SKELETON) ===== -/
def R_law : String := "MulePostBishopsLaw"
def lw_P (b : Addr) (xs : List Int32) (args : Array Value) (s : State) : Prop := args = #[.ref b] ∧ s.IntsAt b xs ∧ xs.length ≤ 3584 ∧ (Jvm.Cond.and given_1 narrow_1).before args s = true
/-- what a walk over the start with the record d0 says of its end, said of the start itself -/
theorem lw_closed {s t : State} {o : Outcome} {d0 : Drawn} {L : List Loc} {k n : Nat} (hd0 : s.drawn.sameBut d0 lw_cs) (hv : ∃ v, o = .returned v) (hW : (s.setDrawn d0).WarmedH t.vm) (hs : (s.setDrawn d0).sameButNew ({ t with vm := s.vm } : State) L k n) : State.butDraws s t lw_cs (fun t1 => Framed s o t1 L k n) := by
  have h2 : t.drawn = d0 := congrArg State.drawn hs.1
  refine ⟨⟨hv, hW, State.sameButNew.setDrawn hs s.drawn⟩, ?_, by decide⟩
  rw [h2]
  exact hd0
def lw_Q (_ : Array Value) (s : State) (o : Outcome) (t : State) : Prop := o = .returned (some (.int 1)) ∧ State.butDraws s t lw_cs (fun t1 => Framed s o t1 [] 601024 7293034)
def lw_Z (below : List Frame) (a : Array Value) (s : State) : State → Prop := fun t => ∃ o, t.status = .running ∧ Ended t below o ∧ lw_Q a s o t
/-- the law's own end, with 1 on the stack, nothing written that was there before, its room as the claim has it; d0: the record of draws at this point (at the entry s.drawn: begin with 'refine W.base ?_' and 'have hd0 := Drawn.sameBut.refl s.drawn lw_cs') -/
theorem lw_ret {p : Program} {l : Launch} {e : Env} {s : State} {m : MethodId} {below : List Frame} {meth : Method} {c : Code} {b : Nat} {d0 : Drawn} (hd0 : s.drawn.sameBut d0 lw_cs) (hx : p.tables.exec = Jvm.exec) (hb : c.code = code) (hr : meth.sig.returnType = ret) (hlocks : meth.locks = false) {pc : Nat} {H : Heap} {ls : Array Slot} (hdg : decode code pc = .ok (.ireturn, 1)) : W p l e room_1 (s.setDrawn d0) m #[Value.ref b] below meth c H [] 601024 7293034 (lw_Z below #[Value.ref b] s) (F0 m pc ls [.int 1]) := by
  intro T hT X
  obtain ⟨fs, hret, hrun, hended, hW, hframe⟩ := X.leave (v := some (.int 1)) (hlocks := hlocks) (fun h => by rw [hr] at h; cases h)
  have hmeth' : T.vm.method? m = some meth := X.method'
  refine ⟨T.setFrames fs, ?_, .returned (some (.int 1)), hrun, hended, rfl, lw_closed hd0 ⟨_, rfl⟩ hW hframe⟩
  jvm_step X.here [X.here.top, hx, hb, hdg, hmeth', hr, ret, narrow_b1]
  (try refine ⟨rfl, ?_⟩); (try refine ⟨rfl, ?_⟩)
  first | (intro acts; rw [hret _ acts rfl rfl rfl]) | rw [hret _ _ rfl rfl rfl]
  exact Steps.refl _
/-- what holds at the law's entry: the machine, the code, the tables' words (any of lw_tbl by 'hts w (by decide +kernel)'), the script of L ints xs at the cell b, what the Statement gives of the start (any of its parts by flat_of_before) -/
def lw_At (p : Program) (s : State) (m : MethodId) (meth : Method) (c : Code) (b L : Nat) (xs : Nat → Int32) : Prop :=
  p.tables.exec = Jvm.exec ∧ c.code = code ∧ meth.sig.returnType = ret ∧ c.maxLocals = 10 ∧ s.vm.findClass R_law = some m.cls ∧ (∀ w ∈ lw_tbl, w.before #[Value.ref b] s = true) ∧ va_X b L xs s s.heap ∧ b < s.heap.size ∧ meth.locks = false ∧ (Jvm.Cond.and given_1 narrow_1).before #[Value.ref b] s = true ∧ c.exceptionTable.toList = []
theorem inv_start {a m : Nat} {r0 : Nat → Int32} {z z' : ev_S} (hm : m = a + 505) (h : R9 a r0 z) (h' : R10 m r0 z z') : INV z'.1 a m := by
  obtain ⟨k1, k2, k3, k4, k5, k6, k7, k8⟩ := h
  obtain ⟨j1, j2, j3, j4, j5⟩ := h'
  have f : ∀ q, q < a + 505 → z'.1 q = z.1 q := fun q hq => j2 q (by omega)
  refine ⟨by rw [j3]; exact q_any_frame (M := z.1) (fun q q1 q2 => f q (by omega)) k2, q_sh_fr k3 (f _ (by omega)) (f _ (by omega)), ⟨0, q_his_fr (M := z.1) (fun q q1 q2 => f q (by omega)) (k4 _), by omega, j4.1⟩, ⟨j4.2.1, j4.2.2.2.2.2.1, ?_, ?_⟩, fun s hs => ⟨q_sh_fr (k5 s hs) (f _ (by omega)) (f _ (by omega)), ?_, fun hne => absurd ?_ hne⟩, ⟨0, by omega, ?_, j4.2.2.1, fun j hj => absurd hj (Nat.not_lt_zero j)⟩, ⟨0, by omega, ?_, j4.2.2.2.2.2.2, fun j hj => absurd hj (Nat.not_lt_zero j)⟩⟩
  · rw [f a (by omega), j4.2.2.2.1]; exact k6.2.2.1.symm
  · rw [f a (by omega), j4.2.2.2.2.1]; exact k6.2.2.2.symm
  · rw [f a (by omega), j5 s hs]
    have : s = 0 ∨ s = 1 := by omega
    rcases this with rfl | rfl
    · exact ⟨fun _ => k6.1, fun _ => rfl⟩
    · exact ⟨fun _ => k6.2.1, fun _ => rfl⟩
  · rw [f a (by omega)]
    have : s = 0 ∨ s = 1 := by omega
    rcases this with rfl | rfl
    · exact k6.1
    · exact k6.2.1
  · rw [f _ (by omega)]; exact k7
  · rw [f _ (by omega)]; exact k8
theorem kl_134 : Cond.classLink "MulePostBishopsLaw" 8 "MulePostBishops" ∈ ev_gw := ev_gi (List.mem_of_getElem? (i := 134) (by decide +kernel)) (by decide +kernel)
theorem kl_136 : Cond.methodLink "MulePostBishopsLaw" 147 yX9_init ∈ ev_gw := ev_gi (List.mem_of_getElem? (i := 136) (by decide +kernel)) (by decide +kernel)
theorem kl_1748 : Cond.classLink "MulePostBishopsLaw" 148 "MulePostBishopsModel" ∈ ev_gw := ev_gi (List.mem_of_getElem? (i := 1748) (by decide +kernel)) (by decide +kernel)
theorem kl_1750 : Cond.methodLink "MulePostBishopsLaw" 150 yX10_init ∈ ev_gw := ev_gi (List.mem_of_getElem? (i := 1750) (by decide +kernel)) (by decide +kernel)
theorem kl_2437 : Cond.arrayClass .long ∈ ev_gw := ev_gi (List.mem_of_getElem? (i := 2437) (by decide +kernel)) (by decide +kernel)
theorem kl_2438 : Cond.arrayClass .double ∈ ev_gw := ev_gi (List.mem_of_getElem? (i := 2438) (by decide +kernel)) (by decide +kernel)
theorem ct_J_n {g : ev_G} {n : Nat} {U : State} {H : Heap} (h : ct_J g U H) : ct_J (ev_gn g n) U H := h
/-- the law's end, out of its loop's -/
theorem law_end {g : ev_G} {below : List Frame} {s : State} {b : Nat} {t : State} (hgb : s.heap.size = ev_b g) (h : vx_MQ below (ev_Qc g (fun o _ => o = .inl (some (ev_i 1)))) (ev_XC g (fun o _ => o = .inl (some (ev_i 1)))) #[Value.ref b] s 601024 7293034 (ev_A g) t) : lw_Z below #[Value.ref b] s t := by
  obtain ⟨o, h1, h2, h3⟩ := h
  rcases h3 with ⟨⟨ov, S', c1, c2, c3, c4⟩, Lc, ⟨f1, f2, f3⟩, f4⟩ | ⟨q, e1, E, ce, L', ⟨k9, S', d1, d2, d3, d4⟩, e2⟩
  · have hov : ov = some (ev_i 1) := by injection c3
    subst hov
    refine ⟨o, h1, h2, c1, lw_closed (d0 := s.drawn) (Drawn.sameBut.refl s.drawn lw_cs) f1 f2 ?_⟩
    exact f3.weaken (fun y hy hlt => absurd hlt (Nat.not_lt.mpr (by rw [hgb]; exact f4 y hy))) (Nat.le_refl _) (Nat.le_refl _)
  · cases d3
theorem law_run {p : Program} {l : Launch} {e : Env} {s : State} {m : MethodId} {below : List Frame} {meth : Method} {c : Code} {b L : Nat} {xs : Nat → Int32} {g : ev_G} {H : Heap} {locs : List Loc} {cells slots : Nat} {ls : Array Slot} {z' : ev_S} (hst : l.stackTraces = false) (hL : L ≤ 3584) (C0 : lw_At p s m meth c b L xs) (hgb : s.heap.size = ev_b g) (hsb : ev_sb g = b) (hsl : ev_sl g = L) (hn : ev_n g = 518) (hJ : ct_J g s s.heap)
    (hI : INV z'.1 (ev_b g) (ev_b g + 505)) (hP : va_P (ev_D g) ev_cl (ev_ws g z') H) (hS : va_S (ev_A g) s.heap H locs) (hc : cells ≤ 518) (hs : slots ≤ 100000)
    (hl : lv_has ls 10 [(5, .int 0), (4, .ref (ev_b g + 517)), (3, .ref (ev_b g + 516)), (2, .ref (ev_b g + 505)), (1, .ref (ev_b g)), (0, .ref b)]) : W p l e room_1 s m #[Value.ref b] below meth c H locs cells slots (lw_Z below #[Value.ref b] s) (F0 m 28 ls []) := by
  obtain ⟨hx, hb, hr, hml, hown, hts, hX, hbl, hlocks, hgv, htab⟩ := C0
  have hE := law_loop (g := g) (k0 := 0) (a := ev_b g) (m := ev_b g + 505) (o1 := ev_b g + 516) (o2 := ev_b g + 517) (Q := fun o _ => o = .inl (some (ev_i 1))) rfl (by omega) (fun z => rfl) 512 0 z' (by omega) (by omega) hI
  have hX2 : ev_X g m_L_law 52 (2 * 512 + 2) z' l p room_1 s m #[Value.ref b] meth c H locs cells slots 601024 7293034 :=
    ⟨⟨hx, hb, hr, hml, hown, hlocks, htab, hst⟩, ⟨fun w hw => hts w (List.mem_filter.mp hw).1, hJ.1, hJ.2.1, Nat.le_of_eq hgb.symm⟩, ⟨Nat.le_of_ble_eq_true rfl, Nat.le_of_ble_eq_true rfl, Nat.le_refl _, Nat.le_refl _, by omega, by omega⟩, hP, hS⟩
  have at518 : ∀ (o : Nat) (k : Nat × Nat), o < 518 → ev_kd o = k → ev_at g k (ev_b g + o) := fun o k ho hk => ⟨Or.inr (Or.inr hn), o, rfl, by rw [hn]; exact ho, ho, hk⟩
  have hLv : ev_L g [some (ev_x 0 0), some (ev_o 9 (ev_b g)), some (ev_o 10 (ev_b g + 505)), some (ev_o 21 (ev_b g + 516)), some (ev_o 22 (ev_b g + 517)), some (ev_i (Int32.ofNat 0)), none, none, none, none] ls := by
    refine ct_has hl rfl (fun i v hi => ?_)
    match i, hi with
    | 0, hi =>
      cases hi
      refine ⟨?_, fun h => by rcases h with h | h <;> cases h⟩
      show (0, Value.ref (ev_sb g)) ∈ _
      rw [hsb]
      exact List.mem_of_getElem? (i := 5) rfl
    | 1, hi => cases hi; exact ⟨List.mem_of_getElem? (i := 4) rfl, at518 0 (9, 0) (by omega) (by decide +kernel)⟩
    | 2, hi => cases hi; exact ⟨List.mem_of_getElem? (i := 3) rfl, at518 505 (10, 0) (by omega) (by decide +kernel)⟩
    | 3, hi => cases hi; exact ⟨List.mem_of_getElem? (i := 2) rfl, at518 516 (21, 1) (by omega) (by decide +kernel)⟩
    | 4, hi => cases hi; exact ⟨List.mem_of_getElem? (i := 1) rfl, at518 517 (22, 1) (by omega) (by decide +kernel)⟩
    | 5, hi => cases hi; exact ⟨List.mem_of_getElem? (i := 0) rfl, trivial⟩
    | 6, hi => cases hi
    | 7, hi => cases hi
    | 8, hi => cases hi
    | 9, hi => cases hi
    | i + 10, hi => simp at hi
  intro T hT Y
  obtain ⟨t2, a1, b1⟩ := hE l p e room_1 s m #[Value.ref b] below meth c H locs cells slots 601024 7293034 ls hX2 hLv hl.1 (fun v hv => by cases hv) T hT Y
  exact ⟨t2, a1, law_end hgb b1⟩
/-- YOUR PART: from the entry, for every script of at most 3584 ints, the law comes to its end with true -/
theorem whole_start {p : Program} {e : Env} {s : State} {m : MethodId} {below : List Frame} {meth : Method} {c : Code} (l : Launch) (hflags : l.flags = flags0) {b L : Nat} {xs : Nat → Int32} (hL : L ≤ 3584) (C0 : lw_At p s m meth c b L xs) : W p l e room_1 s m #[Value.ref b] below meth c s.heap [] 0 0 (lw_Z below #[Value.ref b] s) (entryFrame m ([Value.ref b] : List Value).toArray 10) := by
  obtain ⟨hx, hb, hr, hml, hown, hts, hX, hbl, hlocks, hgv, htab⟩ := id C0
  obtain ⟨g, gb, gsb, gsl, hJ⟩ := law_world hts hX hbl hgv
  obtain ⟨r0, hp⟩ := tx_set
  have hst : l.stackTraces = false := by
    unfold Launch.stackTraces
    rw [hflags]
    decide +kernel
  have htw : ∀ w ∈ ev_gw, w.before #[Value.ref b] s = true := fun w hw => hts w (List.mem_filter.mp hw).1
  have hl := lv_entry ([.ref b]) (n := 10) (Nat.le_of_ble_eq_true rfl)
  rw [lg_entry_eq]
  generalize (lg_sl ([.ref b]) ++ List.replicate (10 - (lg_sl ([.ref b])).length) Slot.unset).toArray = ls at hl ⊢
  have hl : lv_has ls 10 [(0, .ref b)] := hl
  have hKn := hJ.1.1 9 _ rfl
  refine W.newcK (n := 12) hx hb hown (htw _ kl_134) (htw _ ki_135) (htw _ kw_109) (g := F0 m 0 ls []) rfl dL_law_0 (Nat.le_of_ble_eq_true rfl) (Nat.le_of_ble_eq_true rfl) hKn.2.1 gb fun H1 kC hkC e1 z1 o1 => ?_
  have hnew : va_at (ev_D g) ev_cl (ev_b g, .inr (9, ct_f9)) H1 := ⟨_, rfl, (u_born tyX9 htw in_9 hKn hkC e1 tyX9_ok).to ct_d9⟩
  have S1 : va_S (ev_A g) s.heap H1 [] := ⟨by omega, fun q h1 h2 => o1 q (by omega), fun q hq => by cases hq⟩
  refine lv_dup hx hb dL_law_3 rfl ?_
  refine ct_cont (ct_run (g := ev_gn g 505) ci_9 9 (ev_b g) 8 504 25772 147 4 ct_f9 [] [.ref (ev_b g)] hx hb hml hl.1 hown htw (ct_J_n hJ) hst S1 (Nat.le_refl _) z1 hnew trivial (c_ct9 (g := ev_gn g 505) rfl rfl hp) (Or.inr kl_136) rfl ⟨Nat.le_of_ble_eq_true rfl, Nat.le_of_ble_eq_true rfl⟩ (Nat.le_of_ble_eq_true rfl) dL_law_4 ⟨Nat.le_of_ble_eq_true rfl, Nat.le_of_ble_eq_true rfl⟩) fun v st₀ u T' Ls h0 e9 hLs hup hQ => ?_
  obtain ⟨hv, ⟨z, hz, hPz⟩, hF⟩ := hQ
  have hv : v = none := by injection hv
  subst hv
  have hPz : va_P (ev_D g) ev_cl (ev_ws (ev_gn g 505) z) T'.heap := by rw [e9]; exact hPz
  have hlo := (ct_ws_at (g := ev_gn g 505) hPz 504 (by show 504 < 505; omega)).lt
  have hlo : ev_b g + 504 < T'.heap.size := hlo
  have hsz : T'.heap.size = ev_b g + 505 := by omega
  have S2 : va_S (ev_A g) s.heap T'.heap ([] ++ Ls) := ⟨by omega, fun q h1 h2 => by
    rw [e9, hF.2 q (by rw [h0, z1]; omega) h2, h0]
    exact o1 q (by omega), fun q hq => hLs q (by simpa using hq)⟩
  generalize T'.heap = H2 at hPz hsz S2 ⊢
  generalize ([] ++ Ls : List Loc) = locs2 at S2 ⊢
  clear hup hlo hF h0 e9 hLs
  refine lv_astore_n (x := ev_b g) (lv' := [(1, .ref (ev_b g)), (0, .ref b)]) hx hb dL_law_7 rfl hl (by decide) rfl (fun ls hl => ?_)
  -- the reference
  have hKn2 := hJ.1.1 10 _ rfl
  refine W.newcK (n := 28) hx hb hown (htw _ kl_1748) (htw _ ki_1749) (htw _ kw_126) (g := F0 m 8 ls []) rfl dL_law_8 (Nat.le_of_ble_eq_true rfl) (Nat.le_of_ble_eq_true rfl) hKn2.2.1 hsz fun H3 kC3 hkC3 e3 z3 o3 => ?_
  have hnew3 : va_at (ev_D g) ev_cl (ev_b g + 505, .inr (10, ct_f10)) H3 := ⟨_, rfl, (u_born tyX10 htw in_10 hKn2 hkC3 e3 tyX10_ok).to ct_d10⟩
  have S3 : va_S (ev_A g) s.heap H3 locs2 := ⟨by omega, fun q h1 h2 => (o3 q (by omega)).trans (S2.2.1 q h1 h2), S2.2.2⟩
  have hP3 : va_P (ev_D g) ev_cl (ev_ws (ev_gn g 505) z) H3 := hPz.kept (fun k q hq => o3 _ (by have := (hPz k q hq).lt; omega))
  refine lv_dup hx hb dL_law_11 rfl ?_
  refine ct_cont (ct_run (g := ev_gn g 516) ci_10 10 (ev_b g + 505) 9 10 28695 150 12 ct_f10 [] [.ref (ev_b g + 505)] hx hb hml hl.1 hown htw (ct_J_n hJ) hst S3 (by show ev_b g ≤ ev_b g + 505; omega) z3 hnew3 hP3 (c_ct10 rfl hp hz.1) (Or.inr kl_1750) rfl ⟨Nat.le_of_ble_eq_true rfl, Nat.le_of_ble_eq_true rfl⟩ (Nat.le_of_ble_eq_true rfl) dL_law_12 ⟨Nat.le_of_ble_eq_true rfl, Nat.le_of_ble_eq_true rfl⟩) fun v st₀ u T' Ls h0 e9 hLs hup hQ => ?_
  obtain ⟨hv, ⟨z', hz', hPz'⟩, hF⟩ := hQ
  have hv : v = none := by injection hv
  subst hv
  have hPz' : va_P (ev_D g) ev_cl (ev_ws (ev_gn g 516) z') T'.heap := by rw [e9]; exact hPz'
  have hlo := (ct_ws_at (g := ev_gn g 516) hPz' 515 (by show 515 < 516; omega)).lt
  have hlo : ev_b g + 515 < T'.heap.size := hlo
  have hsz2 : T'.heap.size = ev_b g + 516 := by omega
  have S4 : va_S (ev_A g) s.heap T'.heap (locs2 ++ Ls) := ⟨by omega, fun q h1 h2 => by
    rw [e9, hF.2 q (by rw [h0, z3]; omega) h2, h0]
    exact S3.2.1 q h1 h2, fun q hq => (List.mem_append.mp hq).elim (S2.2.2 q) (hLs q)⟩
  generalize T'.heap = H4 at hPz' hsz2 S4 ⊢
  generalize locs2 ++ Ls = locs4 at S4 ⊢
  clear hup hlo hF h0 e9 hLs
  refine lv_astore_n (x := ev_b g + 505) (lv' := [(2, .ref (ev_b g + 505)), (1, .ref (ev_b g)), (0, .ref b)]) hx hb dL_law_15 rfl hl (by decide) rfl (fun ls hl => ?_)
  -- the two rows
  refine lv_iconst (v := 1) hx hb dL_law_16 (by decide) ?_
  refine va_newaK (atype := .long) hx hb (htw _ kl_2437) (g := F0 m 17 ls [.int 1]) rfl dL_law_17 rfl (by decide) (N := 1) (by decide) (by decide) (Nat.le_of_ble_eq_true rfl) (Nat.le_of_ble_eq_true rfl) hsz2 fun H5 cA e5 z5 o5 hAr hNm => ?_
  have hcA : cA = ev_cJ g := Option.some.inj (hNm.symm.trans (hJ.1.2 2 (ev_cJ g, .long) rfl).2)
  subst hcA
  refine lv_astore_n (x := ev_b g + 516) (lv' := [(3, .ref (ev_b g + 516)), (2, .ref (ev_b g + 505)), (1, .ref (ev_b g)), (0, .ref b)]) hx hb dL_law_19 rfl hl (by decide) rfl (fun ls hl => ?_)
  refine lv_iconst (v := 1) hx hb dL_law_20 (by decide) ?_
  refine va_newaK (atype := .double) hx hb (htw _ kl_2438) (g := F0 m 21 ls [.int 1]) rfl dL_law_21 rfl (by decide) (N := 1) (by decide) (by decide) (Nat.le_of_ble_eq_true rfl) (Nat.le_of_ble_eq_true rfl) z5 fun H6 cA6 e6 z6 o6 hAr6 hNm6 => ?_
  have hcA6 : cA6 = ev_cD g := Option.some.inj (hNm6.symm.trans (hJ.1.2 3 (ev_cD g, .double) rfl).2)
  subst hcA6
  refine lv_astore (x := ev_b g + 516 + 1) (lv' := [(4, .ref (ev_b g + 516 + 1)), (3, .ref (ev_b g + 516)), (2, .ref (ev_b g + 505)), (1, .ref (ev_b g)), (0, .ref b)]) hx hb dL_law_23 hl (by decide) rfl (fun ls hl => ?_)
  refine lv_iconst (v := 0) hx hb dL_law_25 (by decide) ?_
  refine lv_istore (lv' := [(5, .int 0), (4, .ref (ev_b g + 516 + 1)), (3, .ref (ev_b g + 516)), (2, .ref (ev_b g + 505)), (1, .ref (ev_b g)), (0, .ref b)]) hx hb dL_law_26 hl (by decide) rfl (fun ls hl => ?_)
  have hz2 : z'.2 = (0, 0) := hz'.1.trans hz.1
  refine law_run (g := ev_gn g 518) (z' := z') hst hL C0 gb gsb gsl rfl (ct_J_n hJ) (inv_start rfl hz hz') (ct_ws_P (fun i hi => ?_)) ⟨by omega, fun q h1 h2 => (o6 q (by omega)).trans ((o5 q (by omega)).trans (S4.2.1 q h1 h2)), S4.2.2⟩ (Nat.le_of_ble_eq_true rfl) (Nat.le_of_ble_eq_true rfl) hl
  have hi : i < 518 := hi
  by_cases h516 : i < 516
  · exact va_at.kept (ct_ws_at (g := ev_gn g 516) hPz' i h516) ((o6 (ev_b g + i) (by omega)).trans (o5 (ev_b g + i) (by omega)))
  · have hi2 : i = 516 ∨ i = 517 := by omega
    rcases hi2 with rfl | rfl
    · show va_at (ev_D g) ev_cl (ev_b g + 516, ev_en (ev_gn g 518) (ev_kd (ev_b g + 516 - ev_b g)) (z'.1 (ev_b g + 516)) z'.2 (ev_b g + 516)) H6
      rw [Nat.add_sub_cancel_left, show ev_kd 516 = (21, 1) from by decide +kernel, hz2]
      exact (o6 (ev_b g + 516) (by omega)).trans e5
    · show va_at (ev_D g) ev_cl (ev_b g + 517, ev_en (ev_gn g 518) (ev_kd (ev_b g + 517 - ev_b g)) (z'.1 (ev_b g + 517)) z'.2 (ev_b g + 517)) H6
      rw [Nat.add_sub_cancel_left, show ev_kd 517 = (22, 1) from by decide +kernel, hz2]
      exact e6
