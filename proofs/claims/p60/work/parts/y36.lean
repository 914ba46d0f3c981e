/-! ===== the start of the law (from the kit's skeleton) ===== -/
def R_law : String := "MulePostBishopsLaw"
def lw_P (b : Addr) (xs : List Int32) (args : Array Value) (s : State) : Prop := args = #[.ref b] ∧ s.IntsAt b xs ∧ xs.length ≤ 260 ∧ (Jvm.Cond.and given_1 narrow_1).before args s = true
/-- what a walk over the start with the record d0 says of its end, said of the start itself -/
theorem lw_closed {s t : State} {o : Outcome} {d0 : Drawn} {L : List Loc} {k n : Nat} (hd0 : s.drawn.sameBut d0 lw_cs) (hv : ∃ v, o = .returned v) (hW : (s.setDrawn d0).WarmedH t.vm) (hs : (s.setDrawn d0).sameButNew ({ t with vm := s.vm } : State) L k n) : State.butDraws s t lw_cs (fun t1 => Framed s o t1 L k n) := by
  have h2 : t.drawn = d0 := congrArg State.drawn hs.1
  refine ⟨⟨hv, hW, State.sameButNew.setDrawn hs s.drawn⟩, ?_, by decide⟩
  rw [h2]
  exact hd0
def lw_Q (_ : Array Value) (s : State) (o : Outcome) (t : State) : Prop := o = .returned (some (.int 1)) ∧ State.butDraws s t lw_cs (fun t1 => Framed s o t1 [] 600074 7301550)
def lw_Z (below : List Frame) (a : Array Value) (s : State) : State → Prop := fun t => ∃ o, t.status = .running ∧ Ended t below o ∧ lw_Q a s o t
/-- what holds at the law's entry: the machine, the code, the tables' words (any of lw_tbl by 'hts w (by decide +kernel)'), the script of L ints xs at the cell b, what the Statement gives of the start (any of its parts by flat_of_before) -/
def lw_At (p : Program) (s : State) (m : MethodId) (meth : Method) (c : Code) (b L : Nat) (xs : Nat → Int32) : Prop :=
  p.tables.exec = Jvm.exec ∧ c.code = code ∧ meth.sig.returnType = ret ∧ c.maxLocals = 7 ∧ s.vm.findClass R_law = some m.cls ∧ (∀ w ∈ lw_tbl, w.before #[Value.ref b] s = true) ∧ va_X b L xs s s.heap ∧ b < s.heap.size ∧ meth.locks = false ∧ (Jvm.Cond.and given_1 narrow_1).before #[Value.ref b] s = true ∧ c.exceptionTable.toList = [] ∧ meth.name = "law"
theorem kl_1 : Cond.classLink "MulePostBishopsLaw" 30 "MulePostBishops" ∈ ev_gw := ev_gi (List.mem_of_getElem? (i := 49) (by decide +kernel)) (by decide +kernel)
theorem kl_2 : Cond.methodLink "MulePostBishopsLaw" 394 yX9_init ∈ ev_gw := ev_gi (List.mem_of_getElem? (i := 51) (by decide +kernel)) (by decide +kernel)
/-- the law's end, out of its loop's -/
theorem law_end {g : ev_G} {below : List Frame} {s : State} {b : Nat} {t : State} (hgb : s.heap.size = ev_b g) (h : vx_MQ below (ev_Qc g [] (fun o _ => o = .inl (some (ev_i 1)))) (ev_XC g [] (fun o _ => o = .inl (some (ev_i 1)))) #[Value.ref b] s 600074 7301550 (ev_A g) t) : lw_Z below #[Value.ref b] s t := by
  obtain ⟨o, h1, h2, h3⟩ := h
  rcases h3 with ⟨⟨ov, S', c1, c2, c3, c4⟩, Lc, ⟨f1, f2, f3⟩, f4⟩ | ⟨q, e1, E, ce, L', ⟨k9, S', d1, d2, d3, d4⟩, e2⟩
  · have hov : ov = some (ev_i 1) := by injection c3
    subst hov
    refine ⟨o, h1, h2, c1, lw_closed (d0 := s.drawn) (Drawn.sameBut.refl s.drawn lw_cs) f1 f2 ?_⟩
    exact f3.weaken (fun y hy hlt => absurd hlt (Nat.not_lt.mpr (by rw [hgb]; exact f4 y hy))) (Nat.le_refl _) (Nat.le_refl _)
  · cases d3
theorem law_run {p : Program} {l : Launch} {e : Env} {s : State} {m : MethodId} {below : List Frame} {meth : Method} {c : Code} {b L : Nat} {xs : Nat → Int32} {g : ev_G} {H : Heap} {locs : List Loc} {cells slots : Nat} {ls : Array Slot} {z : ev_S} {r0 : Nat → Int32} (hst : l.stackTraces = false) (hL : L ≤ 260) (C0 : lw_At p s m meth c b L xs) (hgb : s.heap.size = ev_b g) (hsb : ev_sb g = b) (hsl : ev_sl g = L) (hJ : ct_J g s s.heap)
    (hR : R9 (ev_b g) r0 z) (hP : va_P (ev_D g) ev_cl (ev_ws g z) H) (hS : va_S (ev_A g) s.heap H locs) (hc : cells ≤ 505) (hs : slots ≤ 100000)
    (hl : lv_has ls 7 [(1, .ref (ev_b g)), (0, .ref b)]) : W p l e room_1 s m #[Value.ref b] below meth c H locs cells slots (lw_Z below #[Value.ref b] s) (F0 m 8 ls []) := by
  obtain ⟨hx, hb, hr, hml, hown, hts, hX, hbl, hlocks, hgv, htab, hname⟩ := C0
  obtain ⟨k1, k2, k3, k4, k5, k6, k7, k8⟩ := hR
  have hz1 : z.2.1 = [] := by rw [k1]
  have h11 : q_sh z.1 (ev_b g + 11) := by
    obtain ⟨n, lim, np, L, d, ρ, c1, c2, c3, c4, c5⟩ := k2
    exact q_sh_gm c4
  have hE := w_law (g := g) (S := z) (k0 := 0) (R := fun _ => 0) (Q := fun o _ => o = .inl (some (ev_i 1))) (by omega) (by rw [hz1]; exact ev_lw0) k7 k3 h11 (k4 _) (fun _ => rfl)
  have hX2 : ev_X g m_L_law 10 575788 z l p room_1 s m #[Value.ref b] meth c H locs cells slots 600074 7301550 [] :=
    ⟨⟨hx, hb, hr, hml, hown, hlocks, htab, hst⟩, ⟨fun w hw => hts w (List.mem_filter.mp hw).1, hJ.1, hJ.2.1, Nat.le_of_eq hgb.symm⟩, ⟨Nat.le_of_ble_eq_true rfl, Nat.le_of_ble_eq_true rfl, Nat.le_refl _, Nat.le_refl _, by omega, by omega, by rw [hz1]; exact List.suffix_refl _, by rw [hz1]; exact ev_lw0, hname⟩, hP, hS⟩
  have hLv : ev_L g z.2.1 [some (ev_x 0 0), some (ev_o 9 (ev_b g)), none, none, none, none, none] ls := by
    refine ct_has hl rfl (fun i v hi => ?_)
    match i, hi with
    | 0, hi =>
      cases hi
      refine ⟨?_, fun h => by rcases h with h | h <;> cases h⟩
      show (0, Value.ref (ev_sb g)) ∈ _
      rw [hsb]
      exact List.mem_of_getElem? (i := 1) rfl
    | 1, hi => cases hi; exact ⟨List.mem_of_getElem? (i := 0) rfl, ev_mem_al.mpr (Or.inl ⟨0, by omega, rfl⟩)⟩
    | 2, hi => cases hi
    | 3, hi => cases hi
    | 4, hi => cases hi
    | 5, hi => cases hi
    | 6, hi => cases hi
    | i + 7, hi => simp at hi
  intro T hT Y
  obtain ⟨t2, a1, b1⟩ := hE l p e room_1 s m #[Value.ref b] below meth c H locs cells slots 600074 7301550 [] ls hX2 hLv hl.1 (fun v hv => by cases hv) T hT Y
  exact ⟨t2, a1, law_end hgb b1⟩
set_option maxHeartbeats 4000000 in
set_option maxRecDepth 100000 in
/-- from the entry, for every script of at most 260 ints, the law comes to its end with true -/
theorem whole_start {p : Program} {e : Env} {s : State} {m : MethodId} {below : List Frame} {meth : Method} {c : Code} (l : Launch) (hflags : l.flags = flags0) {b L : Nat} {xs : Nat → Int32} (hL : L ≤ 260) (C0 : lw_At p s m meth c b L xs) : W p l e room_1 s m #[Value.ref b] below meth c s.heap [] 0 0 (lw_Z below #[Value.ref b] s) (entryFrame m ([Value.ref b] : List Value).toArray 7) := by
  obtain ⟨hx, hb, hr, hml, hown, hts, hX, hbl, hlocks, hgv, htab, hname⟩ := id C0
  obtain ⟨g, gb, gsb, gsl, hJ⟩ := law_world hts hX hbl hgv
  obtain ⟨r0, hp⟩ := tx_set
  have hst : l.stackTraces = false := by
    unfold Launch.stackTraces
    rw [hflags]
    decide +kernel
  have htw : ∀ w ∈ ev_gw, w.before #[Value.ref b] s = true := fun w hw => hts w (List.mem_filter.mp hw).1
  have hl := lv_entry ([.ref b]) (n := 7) (Nat.le_of_ble_eq_true rfl)
  rw [lg_entry_eq]
  generalize (lg_sl ([.ref b]) ++ List.replicate (7 - (lg_sl ([.ref b])).length) Slot.unset).toArray = ls at hl ⊢
  have hl : lv_has ls 7 [(0, .ref b)] := hl
  have hKn := hJ.1.1 9 _ rfl
  refine W.newcK (n := 12) hx hb hown (htw _ kl_1) (htw _ sk_9) (htw _ kz_17) (g := F0 m 0 ls []) rfl dL_law_0 (Nat.le_of_ble_eq_true rfl) (Nat.le_of_ble_eq_true rfl) hKn.2.1 gb fun H1 kC hkC e1 z1 o1 => ?_
  have hnew : va_at (ev_D g) ev_cl (ev_b g, .inr (9, ct_f9)) H1 := ⟨_, rfl, (u_born tyX9 htw in_9 hKn hkC e1 tyX9_ok).to ct_d9⟩
  have S1 : va_S (ev_A g) s.heap H1 [] := ⟨by omega, fun q h1 h2 => o1 q (by omega), fun q hq => by cases hq⟩
  refine lv_dup hx hb dL_law_3 rfl ?_
  refine ct_cont (ct_run (g := g) ci_9 9 (ev_b g) 8 504 25772 394 4 ct_f9 [] [.ref (ev_b g)] hx hb hml hl.1 hown htw hJ hst S1 (Nat.le_refl _) z1 hnew trivial (c_ct9 (g := g) (ev_b g) rfl hp) (Or.inr kl_2) rfl ⟨Nat.le_of_ble_eq_true rfl, Nat.le_of_ble_eq_true rfl⟩ (Nat.le_of_ble_eq_true rfl) dL_law_4 ⟨Nat.le_of_ble_eq_true rfl, Nat.le_of_ble_eq_true rfl⟩) fun v st₀ u T' Ls h0 e9 hLs hup hQ => ?_
  obtain ⟨hv, ⟨z, hz, hPz⟩, hF⟩ := hQ
  have hv : v = none := by injection hv
  subst hv
  have hPz : va_P (ev_D g) ev_cl (ev_ws g z) T'.heap := by rw [e9]; exact hPz
  have h504 : ∀ k, k = ev_kd 504 → (ev_b g + 504, k) ∈ ev_al g z.2.1 := fun k hk => ev_mem_al.mpr (Or.inl ⟨504, by omega, by rw [hk]⟩)
  generalize ev_kd 504 = k504 at h504
  have hlo := ((ev_P_iff.mp hPz) (ev_b g + 504, k504) (h504 k504 rfl)).lt
  have hlo : ev_b g + 504 < T'.heap.size := hlo
  have S2 : va_S (ev_A g) s.heap T'.heap ([] ++ Ls) := ⟨by omega, fun q h1 h2 => by
    rw [e9, hF.2 q (by rw [h0, z1]; omega) h2, h0]
    exact o1 q (by omega), fun q hq => hLs q (by simpa using hq)⟩
  generalize T'.heap = H2 at hPz S2 ⊢
  generalize ([] ++ Ls : List Loc) = locs2 at S2 ⊢
  refine lv_astore_n (x := ev_b g) (lv' := [(1, .ref (ev_b g)), (0, .ref b)]) hx hb dL_law_7 rfl hl (by decide) rfl (fun ls hl => ?_)
  exact law_run (g := g) (z := z) (r0 := r0) hst hL C0 gb gsb gsl hJ hz hPz S2 (Nat.le_of_ble_eq_true rfl) (Nat.le_of_ble_eq_true rfl) hl
