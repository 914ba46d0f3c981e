/-! ===== constructors: History's, with its loop ===== -/
theorem kh_410 : Cond.methodLink "MulePostBishops$History" 3 objectInit ∈ ev_gw := ev_gi (List.mem_of_getElem? (i := 321) (by decide +kernel)) (by decide +kernel)
theorem kh_411 : Cond.classLink "MulePostBishops$History" 9 "MulePostBishops$Game" ∈ ev_gw := ev_gi (List.mem_of_getElem? (i := 322) (by decide +kernel)) (by decide +kernel)
theorem kh_222 : Cond.instantiable "MulePostBishops$Game" 6 ∈ ev_gw := ev_gi (List.mem_of_getElem? (i := 133) (by decide +kernel)) (by decide +kernel)
theorem kh_FL : Cond.fieldLink "MulePostBishops$History" 11 "MulePostBishops$History" "past" "[LMulePostBishops$Game;" ∈ ev_gw := ev_gi (List.mem_of_getElem? (i := 325) (by decide +kernel)) (by decide +kernel)
theorem ct_arrV {cA : ClassId} {n : Nat} {f h : Nat → Value} (e : ∀ j, j < n → f j = h j) : arrV cA n f = arrV cA n h := by
  unfold arrV
  congr 1
  congr 1
  funext j
  exact e j.val j.isLt
theorem ct_one {D : va_G} {cl : List vw_C} {x : Nat × va_E} {H : Heap} (h : va_at D cl x H) : va_P D cl [x] H := by
  intro k q hq
  cases k with
  | zero =>
    rw [List.getElem?_cons_zero] at hq
    cases hq
    exact h
  | succ k => simp at hq
/-- the row of games, i of them made -/
def ct_past (g : ev_G) (i q : Nat) : va_E := .inl (ev_cG g, (8, .inr (.inr (.inr (.inr (fun j => if j < i then some (q + 1 + 41 * j) else none))))))
def ct_gs : Nat → ct_T
  | 0 => []
  | i + 1 => ct_gs i ++ ct_t2
theorem ct_gs_len (i : Nat) : (ct_gs i).length = 41 * i := by
  induction i with
  | zero => rfl
  | succ i ih => rw [ct_gs, List.length_append, ih, ct_l2]; omega
theorem ct_full {g : ev_G} {q : Nat} {H : Heap} (h : va_at (ev_D g) ev_cl (q, ct_past g 8 q) H) : va_at (ev_D g) ev_cl (q, ct_en g ((24, 8), []) q) H := by
  have h : H[q]? = some (vp_cell (ev_cG g) (8, .inr (.inr (.inr (.inr (fun j => if j < 8 then some (q + 1 + 41 * j) else none)))))) := h
  show H[q]? = some (vp_cell (ev_cG g) (8, .inr (.inr (.inr (.inr (fun i => some (q + 1 + 41 * i)))))))
  rw [h, vp_cell_q, vp_cell_q, ct_arrV (h := fun j => va_rf (some (q + 1 + 41 * j))) (fun j hj => by rw [if_pos hj])]
theorem ct_grow {g : ev_G} {q i : Nat} {H : Heap} {j : Int32} (hj : j.toNatClampNeg = i) (h : H[q]? = some ((vp_cell (ev_cG g) (8, .inr (.inr (.inr (.inr (fun j => if j < i then some (q + 1 + 41 * j) else none)))))).setSlot j.toNatClampNeg (.ref (q + 1 + 41 * i)))) : va_at (ev_D g) ev_cl (q, ct_past g (i + 1) q) H := by
  show H[q]? = some (vp_cell (ev_cG g) (8, .inr (.inr (.inr (.inr (fun j => if j < i + 1 then some (q + 1 + 41 * j) else none))))))
  rw [h, hj, vp_cell_q, vp_cell_q, arrV_store]
  refine congrArg some (ct_arrV (fun x _ => ?_))
  by_cases hx : x = i
  · subst hx
    rw [if_pos (by omega)]
    simp [updV, va_rf]
  · by_cases h2 : x < i
    · rw [if_pos (show x < i + 1 by omega)]
      simp [updV, hx, h2]
    · rw [if_neg (show ¬ x < i + 1 by omega)]
      simp [updV, hx, h2]
theorem ct_hloop {g : ev_G} {a : Nat} : ∀ (k i : Nat), i + k = 8 → ∀ (l : Launch) (p : Program) (e : Env) (R : Room) (s : State) (m : MethodId) (args : Array Value) (below : List Frame) (meth : Method) (c : Code) (H : Heap) (locs : List Loc) (ls : Array Slot) (cells slots : Nat),
    ct_X g m_X3_init a 3 329 16008 (fun _ => True) (fun q => a ≤ q) l p R s m args meth c → H.size = a + 2 + 41 * i → va_at (ev_D g) ev_cl (a, .inr (3, [.ref (a + 1), .int 0, .int 0])) H → va_at (ev_D g) ev_cl (a + 1, ct_past g i (a + 1)) H → ct_P g (ct_gs i) (a + 2) H → va_S (fun q => a ≤ q) s.heap H locs →
    lv_has ls 2 [(0, .ref a), (1, .int (Int32.ofNat i))] → cells = 1 + 41 * i → slots = 8 + 2000 * i →
    W p l e R s m args below meth c H locs cells slots (MQ below (ct_Qc g ct_t3 a) args s 329 16008 (fun q => a ≤ q)) (F0 m 15 ls []) := by
  intro k
  induction k with
  | zero =>
    intro i hi l p e R s m args below meth c H locs ls cells slots X z o r t S hl hc hs
    have hi8 : i = 8 := by omega
    subst hi8
    refine lv_iload_n X.1.1 X.1.2.1 dX3_init_15 rfl (lv_at hl 1 rfl) ?_
    refine lv_aload_n X.1.1 X.1.2.1 dX3_init_16 rfl (lv_at hl 0 rfl) ?_
    refine va_get (ref := RX3) (index := 11) (v := .ref (a + 1)) X.1.1 X.1.2.1 X.2.1.1 in_3 X.1.2.2.2.2.1 X.2.1.2.1.1 (ct_one o) 0 rfl rfl 0 (by decide) (X.2.1.1 _ kh_FL) (fun _ h9 => h9) rfl dX3_init_17 ?_
    refine va_alen (ws := [(a + 1, ct_past g 8 (a + 1))]) (v := Int32.ofNat 8) X.1.1 X.1.2.1 X.2.1.2.1.1 (ct_one r) 0 4 rfl rfl rfl dX3_init_20 ?_
    refine lv_icmp_ge (tgt := 43) X.1.1 X.1.2.1 dX3_init_21 rfl (fun _ => ?_) (fun h9 => absurd ((n_le (by omega) (by omega)).mpr (Nat.le_refl 8)) h9)
    refine W.widen (k := 329) (n := 16008) (by omega) (by omega) ?_
    refine W.vret (Qc := ct_Qc g ct_t3 a) X.1.1 X.1.2.1 X.1.2.2.1 (fun u hu hW => ⟨rfl, ?_, ?_, S.F hu⟩) (fun q hq => S.2.2 q hq) dX3_init_43 X.1.2.2.2.2.2.1
    · rw [hu, z, ct_l3]
    · rw [hu]
      exact ct_P.cons o (ct_P.cons (ct_full r) t)
  | succ k ih =>
    intro i hi l p e R s m args below meth c H locs ls cells slots X z o r t S hl hc hs
    have hJ := X.2.1.2.1
    have hsz : s.heap.size = a + 1 := X.2.1.2.2.2.1
    have hab : ev_b g ≤ a := X.2.1.2.2.1
    have hR := X.2.2.1
    refine lv_iload_n X.1.1 X.1.2.1 dX3_init_15 rfl (lv_at hl 1 rfl) ?_
    refine lv_aload_n X.1.1 X.1.2.1 dX3_init_16 rfl (lv_at hl 0 rfl) ?_
    refine va_get (ref := RX3) (index := 11) (v := .ref (a + 1)) X.1.1 X.1.2.1 X.2.1.1 in_3 X.1.2.2.2.2.1 X.2.1.2.1.1 (ct_one o) 0 rfl rfl 0 (by decide) (X.2.1.1 _ kh_FL) (fun _ h9 => h9) rfl dX3_init_17 ?_
    refine va_alen (ws := [(a + 1, ct_past g i (a + 1))]) (v := Int32.ofNat 8) X.1.1 X.1.2.1 X.2.1.2.1.1 (ct_one r) 0 4 rfl rfl rfl dX3_init_20 ?_
    refine lv_icmp_ge (tgt := 43) X.1.1 X.1.2.1 dX3_init_21 rfl (fun h9 => absurd h9 (by rw [n_le (by omega) (by omega)]; omega)) (fun _ => ?_)
    refine lv_aload_n X.1.1 X.1.2.1 dX3_init_24 rfl (lv_at hl 0 rfl) ?_
    refine va_get (ref := RX3) (index := 11) (v := .ref (a + 1)) X.1.1 X.1.2.1 X.2.1.1 in_3 X.1.2.2.2.2.1 X.2.1.2.1.1 (ct_one o) 0 rfl rfl 0 (by decide) (X.2.1.1 _ kh_FL) (fun _ h9 => h9) rfl dX3_init_25 ?_
    refine lv_iload_n X.1.1 X.1.2.1 dX3_init_28 rfl (lv_at hl 1 rfl) ?_
    have hKn := hJ.1.1 2 _ rfl
    refine W.newcK (n := 6) X.1.1 X.1.2.1 X.1.2.2.2.2.1 (X.2.1.1 _ kh_411) (X.2.1.1 _ kh_222) (X.2.1.1 _ kw_21) (g := F0 m _ ls _) rfl dX3_init_29 (by omega) (by omega) hKn.2.1 z fun H1 kC hkC e1 z1 o1 => ?_
    have hnew : va_at (ev_D g) ev_cl (a + 2 + 41 * i, .inr (2, ct_f2)) H1 := ⟨_, rfl, (u_born tyX2 X.2.1.1 in_2 hKn hkC e1 tyX2_ok).to ct_d2⟩
    have S1 : va_S (fun q => a ≤ q) s.heap H1 locs := ⟨Nat.le_trans S.1 (by omega), fun q h1 h2 => (o1 q (by omega)).trans (S.2.1 q h1 h2), S.2.2⟩
    refine lv_dup X.1.1 X.1.2.1 dX3_init_32 rfl ?_
    refine ct_cont (ct_run ci_2 2 (a + 2 + 41 * i) 2 40 1994 17 33 ct_f2 [] [.ref (a + 2 + 41 * i), .int (Int32.ofNat i), .ref (a + 1)] X.1.1 X.1.2.1 X.1.2.2.2.1 hl.1 X.1.2.2.2.2.1 X.2.1.1 hJ X.1.2.2.2.2.2.2.2.1 (ct_S hab S1) (by omega) z1 hnew trivial (c_ct2 (a + 2 + 41 * i)) (Or.inl ⟨"MulePostBishops", by decide +kernel⟩) rfl ⟨by omega, by omega⟩ (Nat.le_of_ble_eq_true rfl) dX3_init_33 ⟨by omega, by omega⟩) fun v st₀ u T' Ls h0 e9 hLs _ hQ => ?_
    obtain ⟨hv, hsz2, hP2, hF⟩ := hQ
    have hv : v = none := by injection hv
    subst hv
    have keep : ∀ q, q < a + 2 + 41 * i → T'.heap[q]? = H[q]? := fun q hq => by
      rw [e9, hF.2 q (by rw [h0, z1]; omega) (Nat.not_le.mpr hq), h0]
      exact o1 q hq
    rw [← e9] at hsz2 hP2
    generalize T'.heap = H2 at keep hsz2 hP2 ⊢
    have hg0 : ∃ r : vw_C, ev_cl[2]? = some r ∧ t_OB (a + 2 + 41 * i) ((ev_D g).1 2) r.2.2 ((ev_D g).2 2) H2 (vp_V (ev_fs 2 (ct_r []) (fun _ => none) (a + 2 + 41 * i))) := hP2 0 _ rfl
    obtain ⟨r', hr', cellV, g1, g2, g3, -⟩ := hg0
    have hcls := (hJ.1.1 2 _ rfl).2
    obtain ⟨kA, comp, k1, k2, k3, -⟩ := (hJ.1.2 4 (ev_cG g, .object "MulePostBishops$Game") rfl).2
    have hcomp : comp = (ev_D g).1 2 := Option.some.inj (k3.symm.trans hcls.1)
    subst hcomp
    obtain ⟨kG, hkG, -⟩ := hcls.2
    have r2 : H2[a + 1]? = some (vp_cell (ev_cG g) (8, .inr (.inr (.inr (.inr (fun j => if j < i then some (a + 1 + 1 + 41 * j) else none)))))) := (keep (a + 1) (by omega)).trans r
    refine W.aast (g := F0 m 36 ls [.ref (a + 2 + 41 * i), .int (Int32.ofNat i), .ref (a + 1)]) X.1.1 X.1.2.1 r2 (fun q h => by cases h) (fun h => by cases h) k1 k2 rfl hkG ⟨by rw [show (0 : Int32) = Int32.ofNat 0 from rfl, n_lt (by omega) (by omega)]; omega, by show (Int32.ofNat i).toNatClampNeg < (arrV _ _ _).slots.size; rw [arrV_size, n_c (by omega)]; omega⟩ g1 (fun q h => by rw [g3] at h; cases h) (by rw [g2]; exact hkG) (by rw [g2]; exact va_assign hcls) rfl rfl dX3_init_36 fun H3 e7 z3 oq => ?_
    have r3 : va_at (ev_D g) ev_cl (a + 1, ct_past g (i + 1) (a + 1)) H3 := ct_grow (n_c (by omega)) (by rw [show a + 1 + 1 + 41 * i = a + 2 + 41 * i by omega]; exact e7)
    refine lv_iinc (k := 1) (v := Int32.ofNat (i + 1)) X.1.1 X.1.2.1 dX3_init_37 hl rfl (by rw [show Int32.ofInt 1 = 1 from by decide]; exact n_inc i) (by decide) rfl (fun ls hl => ?_)
    refine lv_goto (tgt := 15) X.1.1 X.1.2.1 dX3_init_40 rfl ?_
    have keep3 : ∀ q, q < a + 2 + 41 * i → q ≠ a + 1 → H3[q]? = H[q]? := fun q h1 h2 => (oq q h2).trans (keep q h1)
    refine ih (i + 1) (by omega) l p e R s m args below meth c H3 _ ls _ _ X (by rw [z3, hsz2, ct_l2]; omega) (o.kept (keep3 _ (by show a < a + 2 + 41 * i; omega) (by show a ≠ a + 1; omega))) r3 ?_ ?_ (lv_sub hl [1, 0] rfl) (by omega) (by omega)
    · refine ct_P.app (b := a + 2 + 41 * i) (t.kept (fun q h1 h2 => keep3 q (by rw [ct_gs_len] at h2; exact h2) (by omega))) (hP2.kept (fun q h1 h2 => oq q (Nat.ne_of_gt (by omega)))) (by rw [ct_gs_len])
    · refine ⟨by rw [z3, hsz2, ct_l2]; omega, fun q h1 h2 => (keep3 q (by omega) (by omega)).trans (S.2.1 q h1 h2), fun q hq => ?_⟩
      rcases List.mem_append.mp hq with hq | hq
      · exact (List.mem_append.mp hq).elim (S.2.2 q) (fun h => Nat.le_trans (by omega) (hLs q h))
      · rw [List.mem_singleton.mp hq]
        exact Nat.le_add_right a 1
theorem c_ct3 {g : ev_G} (a : Nat) : ct_Met g m_X3_init 3 a 3 329 16008 (fun _ => True) ct_f3 [] (ct_Qc g ct_t3 a) (fun q => a ≤ q) := by
  refine ct_enter (L := [(0, .ref a)]) (by decide) rfl rfl rfl rfl rfl (Nat.le_of_ble_eq_true rfl) (fun q h => h) ?_
  refine ct_aload0 dX3_init_0 ?_
  refine ct_super dX3_init_1 kh_410 kz_55 kz_56 ?_
  refine ct_aload0 dX3_init_4 ?_
  refine ct_bipush (8) dX3_init_5 (by decide) ?_
  intro l p e R s m args below meth c H locs ls X z o t S hl
  have hJ := X.2.1.2.1
  have hsz : s.heap.size = a + 1 := X.2.1.2.2.2.1
  have hR := X.2.2.1
  have z : H.size = a + 1 := z
  refine W.anew X.1.1 X.1.2.1 X.1.2.2.2.2.1 (X.2.1.1 _ kh_411) (va_AO.use hJ.2.2) (g := F0 m 7 ls [.int 8, .ref a]) rfl dX3_init_7 rfl (by decide) (by decide) (by omega) (by show 0 + (8 : Int32).toNatClampNeg ≤ _; rw [show (8 : Int32).toNatClampNeg = 8 from rfl]; omega) fun cA kA comp f1 f2 f3 f4 => ?_
  obtain ⟨kA', comp', k1, k2, k3, k4⟩ := (hJ.1.2 4 (ev_cG g, .object "MulePostBishops$Game") rfl).2
  have hcA : cA = ev_cG g := Option.some.inj (f1.symm.trans k4)
  subst hcA
  generalize hH1 : H.push ({ cls := ev_cG g, slots := Array.replicate (8 : Int32).toNatClampNeg .null, vm := .none } : Cell) = H1
  have z1 : H1.size = H.size + 1 := by rw [← hH1, Array.size_push]
  have e1 : H1[H.size]? = some (arrV (ev_cG g) (8 : Int32).toNatClampNeg (fun _ => .null)) := by rw [← hH1, Array.getElem?_push_size, ← arrV_new]
  have o1 : ∀ q : Nat, q < H.size → H1[q]? = H[q]? := fun q hq => by rw [← hH1, Array.getElem?_push, if_neg (Nat.ne_of_lt hq)]
  rw [z] at z1 e1 o1 ⊢
  have r1 : va_at (ev_D g) ev_cl (a + 1, ct_past g 0 (a + 1)) H1 := by
    show H1[a + 1]? = some (vp_cell (ev_cG g) (8, .inr (.inr (.inr (.inr (fun j => if j < 0 then some (a + 1 + 1 + 41 * j) else none))))))
    rw [e1, vp_cell_q]
    exact congrArg some (ct_arrV (fun j _ => by rw [if_neg (Nat.not_lt_zero j)]; rfl))
  refine ct_putFW (K := []) 0 tyX3 [.ref (a + 1), .int 0, .int 0] dX3_init_10 rfl in_3 tyX3_ok nmX3 (by decide) kh_FL rfl rfl rfl rfl (Nat.le_of_ble_eq_true rfl) rfl X (o.kept (o1 _ (by show a < a + 1; omega))) ⟨Nat.le_trans S.1 (by omega), fun q h1 h2 => (o1 q (by omega)).trans (S.2.1 q h1 h2), S.2.2⟩ (fun H2 locs2 z2 o2 ob S2 => ?_)
  refine lv_iconst (v := 0) X.1.1 X.1.2.1 dX3_init_13 (by decide) ?_
  refine lv_istore_n (lv' := [(1, .int 0), (0, .ref a)]) X.1.1 X.1.2.1 dX3_init_14 rfl hl (by decide) rfl (fun ls hl => ?_)
  exact ct_hloop 8 0 rfl l p e R s m args below meth c H2 locs2 ls _ _ X (by omega) ob (r1.kept (o2 _ (by show a + 1 ≠ a; omega))) ct_P.nil S2 (lv_sub hl [1, 0] rfl) rfl rfl
