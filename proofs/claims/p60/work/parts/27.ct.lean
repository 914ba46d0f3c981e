/-! ===== constructors: the law's Own; new trees in the world ===== -/
/-- the row of boards, i of them made -/
def ct_bds (g : ev_G) (i q : Nat) : va_E := .inl (ev_cH g, (2, .inr (.inr (.inr (.inr (fun j => if j < i then some (q + 1 + 7 * j) else none))))))
theorem ct_bfull {g : ev_G} {q : Nat} {H : Heap} (h : va_at (ev_D g) ev_cl (q, ct_bds g 2 q) H) : va_at (ev_D g) ev_cl (q, ct_en g ((26, 2), []) q) H := by
  have h : H[q]? = some (vp_cell (ev_cH g) (2, .inr (.inr (.inr (.inr (fun j => if j < 2 then some (q + 1 + 7 * j) else none)))))) := h
  show H[q]? = some (vp_cell (ev_cH g) (2, .inr (.inr (.inr (.inr (fun i => some (q + 1 + 7 * i)))))))
  rw [h, vp_cell_q, vp_cell_q, ct_arrV (h := fun j => va_rf (some (q + 1 + 7 * j))) (fun j hj => by rw [if_pos hj])]
theorem ct_bgrow {g : ev_G} {q i : Nat} {H : Heap} {j : Int32} (hj : j.toNatClampNeg = i) (h : H[q]? = some ((vp_cell (ev_cH g) (2, .inr (.inr (.inr (.inr (fun j => if j < i then some (q + 1 + 7 * j) else none)))))).setSlot j.toNatClampNeg (.ref (q + 1 + 7 * i)))) : va_at (ev_D g) ev_cl (q, ct_bds g (i + 1) q) H := by
  show H[q]? = some (vp_cell (ev_cH g) (2, .inr (.inr (.inr (.inr (fun j => if j < i + 1 then some (q + 1 + 7 * j) else none))))))
  rw [h, hj, vp_cell_q, vp_cell_q, arrV_store]
  refine congrArg some (ct_arrV (fun x _ => ?_))
  by_cases hx : x = i
  · subst hx
    rw [if_pos (by omega)]
    simp [updV, va_rf]
  · by_cases h2 : x < i
    · rw [if_pos (show x < i + 1 by omega)]
      simp [updV, hx, h2]
    · rw [if_neg (show ¬ x < i + 1 by omega)]
      simp [updV, hx, h2]
def ct_bs : Nat → ct_T
  | 0 => []
  | i + 1 => ct_bs i ++ ct_t10
theorem ct_bs_len (i : Nat) : (ct_bs i).length = 7 * i := by
  induction i with
  | zero => rfl
  | succ i ih => rw [ct_bs, List.length_append, ih, ct_l10]; omega
/-- a board is made and laid into the row -/
theorem ct_board {g : ev_G} {a pc i : Nat} {x : Int32} {n : Int} {l : Launch} {p : Program} {e : Env} {R : Room} {s : State} {m : MethodId} {args : Array Value} {below : List Frame} {meth : Method} {c : Code} {H : Heap} {locs : List Loc} {ls : Array Slot} {cells slots : Nat} {Q : State → Prop} {fs : List Value}
    (d0 : decode (ev_by m_X11_init) pc = .ok (.dup, 1)) (d1 : decode (ev_by m_X11_init) (pc + 1) = .ok (.iconst n, 1)) (d2 : decode (ev_by m_X11_init) (pc + 2) = .ok (.new 7, 3)) (d5 : decode (ev_by m_X11_init) (pc + 5) = .ok (.dup, 1)) (d6 : decode (ev_by m_X11_init) (pc + 6) = .ok (.invokespecial 9, 3)) (d9 : decode (ev_by m_X11_init) (pc + 9) = .ok (.aastore, 1))
    (hx : Int32.ofInt n = x) (hxi : x.toNatClampNeg = i) (hx0 : ¬ x < 0) (hi : i < 2)
    (X : ct_X g m_X11_init a 1 35 2099 (fun _ => True) (fun q => a ≤ q) l p R s m args meth c) (z : H.size = a + 2 + 7 * i) (o : va_at (ev_D g) ev_cl (a, .inr (11, fs)) H) (r : va_at (ev_D g) ev_cl (a + 1, ct_bds g i (a + 1)) H) (t : ct_P g (ct_bs i) (a + 2) H) (S : va_S (fun q => a ≤ q) s.heap H locs)
    (hl : lv_has ls 1 [(0, .ref a)]) (hc : cells = 1 + 7 * i) (hs : slots = 2 + 381 * i)
    (kk : ∀ (H3 : Heap) (locs3 : List Loc) (cells' slots' : Nat), H3.size = a + 2 + 7 * (i + 1) → va_at (ev_D g) ev_cl (a, .inr (11, fs)) H3 → va_at (ev_D g) ev_cl (a + 1, ct_bds g (i + 1) (a + 1)) H3 → ct_P g (ct_bs (i + 1)) (a + 2) H3 → va_S (fun q => a ≤ q) s.heap H3 locs3 → cells' = 1 + 7 * (i + 1) → slots' = 2 + 381 * (i + 1) →
      W p l e R s m args below meth c H3 locs3 cells' slots' Q (F0 m (pc + 10) ls [.ref (a + 1), .ref a])) :
    W p l e R s m args below meth c H locs cells slots Q (F0 m pc ls [.ref (a + 1), .ref a]) := by
  have hJ := X.2.1.2.1
  have hsz : s.heap.size = a + 1 := X.2.1.2.2.2.1
  have hab : ev_b g ≤ a := X.2.1.2.2.1
  have hR := X.2.2.1
  refine lv_dup X.1.1 X.1.2.1 d0 rfl ?_
  refine lv_iconst (v := x) X.1.1 X.1.2.1 d1 hx ?_
  have hKn := hJ.1.1 10 _ rfl
  refine W.newcK (n := 12) X.1.1 X.1.2.1 X.1.2.2.2.2.1 (X.2.1.1 _ kw_731) (X.2.1.1 _ kw_733) (X.2.1.1 _ kw_35) (g := F0 m _ ls _) rfl d2 (by omega) (by omega) hKn.2.1 z fun H1 kC hkC e1 z1 o1 => ?_
  have hnew : va_at (ev_D g) ev_cl (a + 2 + 7 * i, .inr (10, ct_f10)) H1 := ⟨_, rfl, (u_born tyX10 X.2.1.1 in_10 hKn hkC e1 tyX10_ok).to ct_d10⟩
  have S1 : va_S (fun q => a ≤ q) s.heap H1 locs := ⟨Nat.le_trans S.1 (by omega), fun q h1 h2 => (o1 q (by omega)).trans (S.2.1 q h1 h2), S.2.2⟩
  refine lv_dup X.1.1 X.1.2.1 d5 rfl ?_
  refine ct_cont (ct_run ci_10 10 (a + 2 + 7 * i) 0 6 369 9 (pc + 6) ct_f10 [] [.ref (a + 2 + 7 * i), .int x, .ref (a + 1), .ref (a + 1), .ref a] X.1.1 X.1.2.1 X.1.2.2.2.1 hl.1 X.1.2.2.2.2.1 X.2.1.1 hJ X.1.2.2.2.2.2.2.2.1 (ct_S hab S1) (by omega) z1 hnew trivial (c_ct10 (a + 2 + 7 * i)) (Or.inl ⟨"MulePostBishopsLaw", List.mem_of_getElem? (i := 20) (by decide +kernel)⟩) rfl ⟨by omega, by omega⟩ (Nat.le_of_ble_eq_true rfl) d6 ⟨by omega, by omega⟩) fun v st₀ u T' Ls h0 e9 hLs _ hQ => ?_
  obtain ⟨hv, hsz2, hP2, hF⟩ := hQ
  have hv : v = none := by injection hv
  subst hv
  have keep : ∀ q, q < a + 2 + 7 * i → T'.heap[q]? = H[q]? := fun q hq => by
    rw [e9, hF.2 q (by rw [h0, z1]; omega) (Nat.not_le.mpr hq), h0]
    exact o1 q hq
  rw [← e9] at hsz2 hP2
  generalize T'.heap = H2 at keep hsz2 hP2 ⊢
  have hg0 : ∃ r : vw_C, ev_cl[10]? = some r ∧ t_OB (a + 2 + 7 * i) ((ev_D g).1 10) r.2.2 ((ev_D g).2 10) H2 (vp_V (ev_fs 10 (ct_r [0, 0, 0, 0, 0, 0, 0, -1]) (fun _ => none) (a + 2 + 7 * i))) := hP2 0 _ rfl
  obtain ⟨r', hr', cellV, g1, g2, g3, -⟩ := hg0
  have hcls := (hJ.1.1 10 _ rfl).2
  obtain ⟨kA, comp, k1, k2, k3, -⟩ := (hJ.1.2 5 (ev_cH g, .object "MulePostBishopsLaw$Board") rfl).2
  have hcomp : comp = (ev_D g).1 10 := Option.some.inj (k3.symm.trans hcls.1)
  subst hcomp
  obtain ⟨kG, hkG, -⟩ := hcls.2
  have r2 : H2[a + 1]? = some (vp_cell (ev_cH g) (2, .inr (.inr (.inr (.inr (fun j => if j < i then some (a + 1 + 1 + 7 * j) else none)))))) := (keep (a + 1) (by omega)).trans r
  refine W.aast (g := F0 m (pc + 9) ls [.ref (a + 2 + 7 * i), .int x, .ref (a + 1), .ref (a + 1), .ref a]) X.1.1 X.1.2.1 r2 (fun q h => by cases h) (fun h => by cases h) k1 k2 rfl hkG ⟨hx0, by show x.toNatClampNeg < (arrV _ _ _).slots.size; rw [arrV_size, hxi]; omega⟩ g1 (fun q h => by rw [g3] at h; cases h) (by rw [g2]; exact hkG) (by rw [g2]; exact va_assign hcls) rfl rfl d9 fun H3 e7 z3 oq => ?_
  have r3 : va_at (ev_D g) ev_cl (a + 1, ct_bds g (i + 1) (a + 1)) H3 := ct_bgrow hxi (by rw [show a + 1 + 1 + 7 * i = a + 2 + 7 * i by omega]; exact e7)
  have keep3 : ∀ q, q < a + 2 + 7 * i → q ≠ a + 1 → H3[q]? = H[q]? := fun q h1 h2 => (oq q h2).trans (keep q h1)
  refine kk H3 _ _ _ (by rw [z3, hsz2, ct_l10]; omega) (o.kept (keep3 _ (by show a < a + 2 + 7 * i; omega) (by show a ≠ a + 1; omega))) r3 ?_ ?_ (by omega) (by omega)
  · refine ct_P.app (b := a + 2 + 7 * i) (t.kept (fun q h1 h2 => keep3 q (by rw [ct_bs_len] at h2; exact h2) (by omega))) (hP2.kept (fun q h1 h2 => oq q (Nat.ne_of_gt (by omega)))) (by rw [ct_bs_len])
  · refine ⟨by rw [z3, hsz2, ct_l10]; omega, fun q h1 h2 => (keep3 q (by omega) (by omega)).trans (S.2.1 q h1 h2), fun q hq => ?_⟩
    rcases List.mem_append.mp hq with hq | hq
    · exact (List.mem_append.mp hq).elim (S.2.2 q) (fun h => Nat.le_trans (by omega) (hLs q h))
    · rw [List.mem_singleton.mp hq]
      exact Nat.le_add_right a 1
theorem c_ct11b {g : ev_G} {a : Nat} : ct_E g m_X11_init a 11 1 35 2099 (fun _ => True) (ct_Qc g ct_t11 a) (fun q => a ≤ q) 32 [(0, .ref a)] [] [.int 0, .int 0, .int 0, .int 0, .int 0, .int 0, .int 0, .int 0, .int 0, .int 0, .int 0, .ref (a + 1), .null, .null, .null, .null, .null, .null, .null, .null, .null, .null, .null, .null, .null, .null, .null, .null, .null, .null, .null, .null, .int 0, .int 0] ([((26, 2), [])] ++ ct_t10 ++ ct_t10) 15 764 := by
  refine ct_aload0 dX11_init_32 ?_
  refine ct_iconst (4) dX11_init_33 (by decide) ?_
  refine ct_newarr 4 16 dX11_init_34 kz_91 (by decide) (by decide) (by decide) (by simp only [List.length_append, List.length_cons, List.length_nil, ct_l0, ct_l1, ct_l5, ct_l6, ct_l2, ct_l7, ct_l4, ct_l8, ct_l3, ct_l10]) (Nat.le_of_ble_eq_true rfl) (Nat.le_of_ble_eq_true rfl) ?_
  refine ct_putF 12 tyX11 [.int 0, .int 0, .int 0, .int 0, .int 0, .int 0, .int 0, .int 0, .int 0, .int 0, .int 0, .ref (a + 1), .ref (a + 16), .null, .null, .null, .null, .null, .null, .null, .null, .null, .null, .null, .null, .null, .null, .null, .null, .null, .null, .null, .int 0, .int 0] dX11_init_36 rfl in_11 tyX11_ok nmX11 (by decide) kz_820 rfl rfl rfl rfl (Nat.le_of_ble_eq_true rfl) rfl ?_
  refine ct_aload0 dX11_init_39 ?_
  refine ct_bipush (8) dX11_init_40 (by decide) ?_
  refine ct_newarr 8 17 dX11_init_42 kz_91 (by decide) (by decide) (by decide) (by simp only [List.length_append, List.length_cons, List.length_nil, ct_l0, ct_l1, ct_l5, ct_l6, ct_l2, ct_l7, ct_l4, ct_l8, ct_l3, ct_l10]) (Nat.le_of_ble_eq_true rfl) (Nat.le_of_ble_eq_true rfl) ?_
  refine ct_putF 13 tyX11 [.int 0, .int 0, .int 0, .int 0, .int 0, .int 0, .int 0, .int 0, .int 0, .int 0, .int 0, .ref (a + 1), .ref (a + 16), .ref (a + 17), .null, .null, .null, .null, .null, .null, .null, .null, .null, .null, .null, .null, .null, .null, .null, .null, .null, .null, .int 0, .int 0] dX11_init_44 rfl in_11 tyX11_ok nmX11 (by decide) kz_822 rfl rfl rfl rfl (Nat.le_of_ble_eq_true rfl) rfl ?_
  refine ct_aload0 dX11_init_47 ?_
  refine ct_bipush (48) dX11_init_48 (by decide) ?_
  refine ct_newarr 48 18 dX11_init_50 kz_91 (by decide) (by decide) (by decide) (by simp only [List.length_append, List.length_cons, List.length_nil, ct_l0, ct_l1, ct_l5, ct_l6, ct_l2, ct_l7, ct_l4, ct_l8, ct_l3, ct_l10]) (Nat.le_of_ble_eq_true rfl) (Nat.le_of_ble_eq_true rfl) ?_
  refine ct_putF 14 tyX11 [.int 0, .int 0, .int 0, .int 0, .int 0, .int 0, .int 0, .int 0, .int 0, .int 0, .int 0, .ref (a + 1), .ref (a + 16), .ref (a + 17), .ref (a + 18), .null, .null, .null, .null, .null, .null, .null, .null, .null, .null, .null, .null, .null, .null, .null, .null, .null, .int 0, .int 0] dX11_init_52 rfl in_11 tyX11_ok nmX11 (by decide) kz_824 rfl rfl rfl rfl (Nat.le_of_ble_eq_true rfl) rfl ?_
  refine ct_aload0 dX11_init_55 ?_
  refine ct_bipush (81) dX11_init_56 (by decide) ?_
  refine ct_newarr 81 19 dX11_init_58 kz_91 (by decide) (by decide) (by decide) (by simp only [List.length_append, List.length_cons, List.length_nil, ct_l0, ct_l1, ct_l5, ct_l6, ct_l2, ct_l7, ct_l4, ct_l8, ct_l3, ct_l10]) (Nat.le_of_ble_eq_true rfl) (Nat.le_of_ble_eq_true rfl) ?_
  refine ct_putF 15 tyX11 [.int 0, .int 0, .int 0, .int 0, .int 0, .int 0, .int 0, .int 0, .int 0, .int 0, .int 0, .ref (a + 1), .ref (a + 16), .ref (a + 17), .ref (a + 18), .ref (a + 19), .null, .null, .null, .null, .null, .null, .null, .null, .null, .null, .null, .null, .null, .null, .null, .null, .int 0, .int 0] dX11_init_60 rfl in_11 tyX11_ok nmX11 (by decide) kz_826 rfl rfl rfl rfl (Nat.le_of_ble_eq_true rfl) rfl ?_
  refine ct_aload0 dX11_init_63 ?_
  refine ct_bipush (81) dX11_init_64 (by decide) ?_
  refine ct_newarr 81 20 dX11_init_66 kz_91 (by decide) (by decide) (by decide) (by simp only [List.length_append, List.length_cons, List.length_nil, ct_l0, ct_l1, ct_l5, ct_l6, ct_l2, ct_l7, ct_l4, ct_l8, ct_l3, ct_l10]) (Nat.le_of_ble_eq_true rfl) (Nat.le_of_ble_eq_true rfl) ?_
  refine ct_putF 16 tyX11 [.int 0, .int 0, .int 0, .int 0, .int 0, .int 0, .int 0, .int 0, .int 0, .int 0, .int 0, .ref (a + 1), .ref (a + 16), .ref (a + 17), .ref (a + 18), .ref (a + 19), .ref (a + 20), .null, .null, .null, .null, .null, .null, .null, .null, .null, .null, .null, .null, .null, .null, .null, .int 0, .int 0] dX11_init_68 rfl in_11 tyX11_ok nmX11 (by decide) kz_828 rfl rfl rfl rfl (Nat.le_of_ble_eq_true rfl) rfl ?_
  refine ct_aload0 dX11_init_71 ?_
  refine ct_bipush (81) dX11_init_72 (by decide) ?_
  refine ct_newarr 81 21 dX11_init_74 kz_91 (by decide) (by decide) (by decide) (by simp only [List.length_append, List.length_cons, List.length_nil, ct_l0, ct_l1, ct_l5, ct_l6, ct_l2, ct_l7, ct_l4, ct_l8, ct_l3, ct_l10]) (Nat.le_of_ble_eq_true rfl) (Nat.le_of_ble_eq_true rfl) ?_
  refine ct_putF 17 tyX11 [.int 0, .int 0, .int 0, .int 0, .int 0, .int 0, .int 0, .int 0, .int 0, .int 0, .int 0, .ref (a + 1), .ref (a + 16), .ref (a + 17), .ref (a + 18), .ref (a + 19), .ref (a + 20), .ref (a + 21), .null, .null, .null, .null, .null, .null, .null, .null, .null, .null, .null, .null, .null, .null, .int 0, .int 0] dX11_init_76 rfl in_11 tyX11_ok nmX11 (by decide) kz_829 rfl rfl rfl rfl (Nat.le_of_ble_eq_true rfl) rfl ?_
  refine ct_aload0 dX11_init_79 ?_
  refine ct_bipush (81) dX11_init_80 (by decide) ?_
  refine ct_newarr 81 22 dX11_init_82 kz_91 (by decide) (by decide) (by decide) (by simp only [List.length_append, List.length_cons, List.length_nil, ct_l0, ct_l1, ct_l5, ct_l6, ct_l2, ct_l7, ct_l4, ct_l8, ct_l3, ct_l10]) (Nat.le_of_ble_eq_true rfl) (Nat.le_of_ble_eq_true rfl) ?_
  refine ct_putF 18 tyX11 [.int 0, .int 0, .int 0, .int 0, .int 0, .int 0, .int 0, .int 0, .int 0, .int 0, .int 0, .ref (a + 1), .ref (a + 16), .ref (a + 17), .ref (a + 18), .ref (a + 19), .ref (a + 20), .ref (a + 21), .ref (a + 22), .null, .null, .null, .null, .null, .null, .null, .null, .null, .null, .null, .null, .null, .int 0, .int 0] dX11_init_84 rfl in_11 tyX11_ok nmX11 (by decide) kz_831 rfl rfl rfl rfl (Nat.le_of_ble_eq_true rfl) rfl ?_
  refine ct_aload0 dX11_init_87 ?_
  refine ct_bipush (81) dX11_init_88 (by decide) ?_
  refine ct_newarr 81 23 dX11_init_90 kz_91 (by decide) (by decide) (by decide) (by simp only [List.length_append, List.length_cons, List.length_nil, ct_l0, ct_l1, ct_l5, ct_l6, ct_l2, ct_l7, ct_l4, ct_l8, ct_l3, ct_l10]) (Nat.le_of_ble_eq_true rfl) (Nat.le_of_ble_eq_true rfl) ?_
  refine ct_putF 19 tyX11 [.int 0, .int 0, .int 0, .int 0, .int 0, .int 0, .int 0, .int 0, .int 0, .int 0, .int 0, .ref (a + 1), .ref (a + 16), .ref (a + 17), .ref (a + 18), .ref (a + 19), .ref (a + 20), .ref (a + 21), .ref (a + 22), .ref (a + 23), .null, .null, .null, .null, .null, .null, .null, .null, .null, .null, .null, .null, .int 0, .int 0] dX11_init_92 rfl in_11 tyX11_ok nmX11 (by decide) kz_833 rfl rfl rfl rfl (Nat.le_of_ble_eq_true rfl) rfl ?_
  refine ct_aload0 dX11_init_95 ?_
  refine ct_bipush (81) dX11_init_96 (by decide) ?_
  refine ct_newarr 81 24 dX11_init_98 kz_91 (by decide) (by decide) (by decide) (by simp only [List.length_append, List.length_cons, List.length_nil, ct_l0, ct_l1, ct_l5, ct_l6, ct_l2, ct_l7, ct_l4, ct_l8, ct_l3, ct_l10]) (Nat.le_of_ble_eq_true rfl) (Nat.le_of_ble_eq_true rfl) ?_
  refine ct_putF 20 tyX11 [.int 0, .int 0, .int 0, .int 0, .int 0, .int 0, .int 0, .int 0, .int 0, .int 0, .int 0, .ref (a + 1), .ref (a + 16), .ref (a + 17), .ref (a + 18), .ref (a + 19), .ref (a + 20), .ref (a + 21), .ref (a + 22), .ref (a + 23), .ref (a + 24), .null, .null, .null, .null, .null, .null, .null, .null, .null, .null, .null, .int 0, .int 0] dX11_init_100 rfl in_11 tyX11_ok nmX11 (by decide) kz_835 rfl rfl rfl rfl (Nat.le_of_ble_eq_true rfl) rfl ?_
  refine ct_aload0 dX11_init_103 ?_
  refine ct_bipush (81) dX11_init_104 (by decide) ?_
  refine ct_newarr 81 25 dX11_init_106 kz_91 (by decide) (by decide) (by decide) (by simp only [List.length_append, List.length_cons, List.length_nil, ct_l0, ct_l1, ct_l5, ct_l6, ct_l2, ct_l7, ct_l4, ct_l8, ct_l3, ct_l10]) (Nat.le_of_ble_eq_true rfl) (Nat.le_of_ble_eq_true rfl) ?_
  refine ct_putF 21 tyX11 [.int 0, .int 0, .int 0, .int 0, .int 0, .int 0, .int 0, .int 0, .int 0, .int 0, .int 0, .ref (a + 1), .ref (a + 16), .ref (a + 17), .ref (a + 18), .ref (a + 19), .ref (a + 20), .ref (a + 21), .ref (a + 22), .ref (a + 23), .ref (a + 24), .ref (a + 25), .null, .null, .null, .null, .null, .null, .null, .null, .null, .null, .int 0, .int 0] dX11_init_108 rfl in_11 tyX11_ok nmX11 (by decide) kz_837 rfl rfl rfl rfl (Nat.le_of_ble_eq_true rfl) rfl ?_
  refine ct_aload0 dX11_init_111 ?_
  refine ct_bipush (81) dX11_init_112 (by decide) ?_
  refine ct_newarr 81 26 dX11_init_114 kz_91 (by decide) (by decide) (by decide) (by simp only [List.length_append, List.length_cons, List.length_nil, ct_l0, ct_l1, ct_l5, ct_l6, ct_l2, ct_l7, ct_l4, ct_l8, ct_l3, ct_l10]) (Nat.le_of_ble_eq_true rfl) (Nat.le_of_ble_eq_true rfl) ?_
  refine ct_putF 22 tyX11 [.int 0, .int 0, .int 0, .int 0, .int 0, .int 0, .int 0, .int 0, .int 0, .int 0, .int 0, .ref (a + 1), .ref (a + 16), .ref (a + 17), .ref (a + 18), .ref (a + 19), .ref (a + 20), .ref (a + 21), .ref (a + 22), .ref (a + 23), .ref (a + 24), .ref (a + 25), .ref (a + 26), .null, .null, .null, .null, .null, .null, .null, .null, .null, .int 0, .int 0] dX11_init_116 rfl in_11 tyX11_ok nmX11 (by decide) kz_838 rfl rfl rfl rfl (Nat.le_of_ble_eq_true rfl) rfl ?_
  refine ct_aload0 dX11_init_119 ?_
  refine ct_bipush (81) dX11_init_120 (by decide) ?_
  refine ct_newarr 81 27 dX11_init_122 kz_91 (by decide) (by decide) (by decide) (by simp only [List.length_append, List.length_cons, List.length_nil, ct_l0, ct_l1, ct_l5, ct_l6, ct_l2, ct_l7, ct_l4, ct_l8, ct_l3, ct_l10]) (Nat.le_of_ble_eq_true rfl) (Nat.le_of_ble_eq_true rfl) ?_
  refine ct_putF 23 tyX11 [.int 0, .int 0, .int 0, .int 0, .int 0, .int 0, .int 0, .int 0, .int 0, .int 0, .int 0, .ref (a + 1), .ref (a + 16), .ref (a + 17), .ref (a + 18), .ref (a + 19), .ref (a + 20), .ref (a + 21), .ref (a + 22), .ref (a + 23), .ref (a + 24), .ref (a + 25), .ref (a + 26), .ref (a + 27), .null, .null, .null, .null, .null, .null, .null, .null, .int 0, .int 0] dX11_init_124 rfl in_11 tyX11_ok nmX11 (by decide) kz_839 rfl rfl rfl rfl (Nat.le_of_ble_eq_true rfl) rfl ?_
  refine ct_aload0 dX11_init_127 ?_
  refine ct_bipush (81) dX11_init_128 (by decide) ?_
  refine ct_newarr 81 28 dX11_init_130 kz_91 (by decide) (by decide) (by decide) (by simp only [List.length_append, List.length_cons, List.length_nil, ct_l0, ct_l1, ct_l5, ct_l6, ct_l2, ct_l7, ct_l4, ct_l8, ct_l3, ct_l10]) (Nat.le_of_ble_eq_true rfl) (Nat.le_of_ble_eq_true rfl) ?_
  refine ct_putF 24 tyX11 [.int 0, .int 0, .int 0, .int 0, .int 0, .int 0, .int 0, .int 0, .int 0, .int 0, .int 0, .ref (a + 1), .ref (a + 16), .ref (a + 17), .ref (a + 18), .ref (a + 19), .ref (a + 20), .ref (a + 21), .ref (a + 22), .ref (a + 23), .ref (a + 24), .ref (a + 25), .ref (a + 26), .ref (a + 27), .ref (a + 28), .null, .null, .null, .null, .null, .null, .null, .int 0, .int 0] dX11_init_132 rfl in_11 tyX11_ok nmX11 (by decide) kz_840 rfl rfl rfl rfl (Nat.le_of_ble_eq_true rfl) rfl ?_
  refine ct_aload0 dX11_init_135 ?_
  refine ct_bipush (81) dX11_init_136 (by decide) ?_
  refine ct_newarrZ 81 29 dX11_init_138 kz_796 (by decide) (by decide) (by decide) (by simp only [List.length_append, List.length_cons, List.length_nil, ct_l0, ct_l1, ct_l5, ct_l6, ct_l2, ct_l7, ct_l4, ct_l8, ct_l3, ct_l10]) (Nat.le_of_ble_eq_true rfl) (Nat.le_of_ble_eq_true rfl) ?_
  refine ct_putF 25 tyX11 [.int 0, .int 0, .int 0, .int 0, .int 0, .int 0, .int 0, .int 0, .int 0, .int 0, .int 0, .ref (a + 1), .ref (a + 16), .ref (a + 17), .ref (a + 18), .ref (a + 19), .ref (a + 20), .ref (a + 21), .ref (a + 22), .ref (a + 23), .ref (a + 24), .ref (a + 25), .ref (a + 26), .ref (a + 27), .ref (a + 28), .ref (a + 29), .null, .null, .null, .null, .null, .null, .int 0, .int 0] dX11_init_140 rfl in_11 tyX11_ok nmX11 (by decide) kz_841 rfl rfl rfl rfl (Nat.le_of_ble_eq_true rfl) rfl ?_
  refine ct_aload0 dX11_init_143 ?_
  refine ct_bipush (64) dX11_init_144 (by decide) ?_
  refine ct_newarrZ 64 30 dX11_init_146 kz_796 (by decide) (by decide) (by decide) (by simp only [List.length_append, List.length_cons, List.length_nil, ct_l0, ct_l1, ct_l5, ct_l6, ct_l2, ct_l7, ct_l4, ct_l8, ct_l3, ct_l10]) (Nat.le_of_ble_eq_true rfl) (Nat.le_of_ble_eq_true rfl) ?_
  refine ct_putF 26 tyX11 [.int 0, .int 0, .int 0, .int 0, .int 0, .int 0, .int 0, .int 0, .int 0, .int 0, .int 0, .ref (a + 1), .ref (a + 16), .ref (a + 17), .ref (a + 18), .ref (a + 19), .ref (a + 20), .ref (a + 21), .ref (a + 22), .ref (a + 23), .ref (a + 24), .ref (a + 25), .ref (a + 26), .ref (a + 27), .ref (a + 28), .ref (a + 29), .ref (a + 30), .null, .null, .null, .null, .null, .int 0, .int 0] dX11_init_148 rfl in_11 tyX11_ok nmX11 (by decide) kz_843 rfl rfl rfl rfl (Nat.le_of_ble_eq_true rfl) rfl ?_
  refine ct_aload0 dX11_init_151 ?_
  refine ct_bipush (64) dX11_init_152 (by decide) ?_
  refine ct_newarrZ 64 31 dX11_init_154 kz_796 (by decide) (by decide) (by decide) (by simp only [List.length_append, List.length_cons, List.length_nil, ct_l0, ct_l1, ct_l5, ct_l6, ct_l2, ct_l7, ct_l4, ct_l8, ct_l3, ct_l10]) (Nat.le_of_ble_eq_true rfl) (Nat.le_of_ble_eq_true rfl) ?_
  refine ct_putF 27 tyX11 [.int 0, .int 0, .int 0, .int 0, .int 0, .int 0, .int 0, .int 0, .int 0, .int 0, .int 0, .ref (a + 1), .ref (a + 16), .ref (a + 17), .ref (a + 18), .ref (a + 19), .ref (a + 20), .ref (a + 21), .ref (a + 22), .ref (a + 23), .ref (a + 24), .ref (a + 25), .ref (a + 26), .ref (a + 27), .ref (a + 28), .ref (a + 29), .ref (a + 30), .ref (a + 31), .null, .null, .null, .null, .int 0, .int 0] dX11_init_156 rfl in_11 tyX11_ok nmX11 (by decide) kz_845 rfl rfl rfl rfl (Nat.le_of_ble_eq_true rfl) rfl ?_
  refine ct_aload0 dX11_init_159 ?_
  refine ct_bipush (64) dX11_init_160 (by decide) ?_
  refine ct_newarr 64 32 dX11_init_162 kz_91 (by decide) (by decide) (by decide) (by simp only [List.length_append, List.length_cons, List.length_nil, ct_l0, ct_l1, ct_l5, ct_l6, ct_l2, ct_l7, ct_l4, ct_l8, ct_l3, ct_l10]) (Nat.le_of_ble_eq_true rfl) (Nat.le_of_ble_eq_true rfl) ?_
  refine ct_putF 28 tyX11 [.int 0, .int 0, .int 0, .int 0, .int 0, .int 0, .int 0, .int 0, .int 0, .int 0, .int 0, .ref (a + 1), .ref (a + 16), .ref (a + 17), .ref (a + 18), .ref (a + 19), .ref (a + 20), .ref (a + 21), .ref (a + 22), .ref (a + 23), .ref (a + 24), .ref (a + 25), .ref (a + 26), .ref (a + 27), .ref (a + 28), .ref (a + 29), .ref (a + 30), .ref (a + 31), .ref (a + 32), .null, .null, .null, .int 0, .int 0] dX11_init_164 rfl in_11 tyX11_ok nmX11 (by decide) kz_846 rfl rfl rfl rfl (Nat.le_of_ble_eq_true rfl) rfl ?_
  refine ct_aload0 dX11_init_167 ?_
  refine ct_bipush (64) dX11_init_168 (by decide) ?_
  refine ct_newarr 64 33 dX11_init_170 kz_91 (by decide) (by decide) (by decide) (by simp only [List.length_append, List.length_cons, List.length_nil, ct_l0, ct_l1, ct_l5, ct_l6, ct_l2, ct_l7, ct_l4, ct_l8, ct_l3, ct_l10]) (Nat.le_of_ble_eq_true rfl) (Nat.le_of_ble_eq_true rfl) ?_
  refine ct_putF 29 tyX11 [.int 0, .int 0, .int 0, .int 0, .int 0, .int 0, .int 0, .int 0, .int 0, .int 0, .int 0, .ref (a + 1), .ref (a + 16), .ref (a + 17), .ref (a + 18), .ref (a + 19), .ref (a + 20), .ref (a + 21), .ref (a + 22), .ref (a + 23), .ref (a + 24), .ref (a + 25), .ref (a + 26), .ref (a + 27), .ref (a + 28), .ref (a + 29), .ref (a + 30), .ref (a + 31), .ref (a + 32), .ref (a + 33), .null, .null, .int 0, .int 0] dX11_init_172 rfl in_11 tyX11_ok nmX11 (by decide) kz_848 rfl rfl rfl rfl (Nat.le_of_ble_eq_true rfl) rfl ?_
  refine ct_aload0 dX11_init_175 ?_
  refine ct_bipush (64) dX11_init_176 (by decide) ?_
  refine ct_newarr 64 34 dX11_init_178 kz_91 (by decide) (by decide) (by decide) (by simp only [List.length_append, List.length_cons, List.length_nil, ct_l0, ct_l1, ct_l5, ct_l6, ct_l2, ct_l7, ct_l4, ct_l8, ct_l3, ct_l10]) (Nat.le_of_ble_eq_true rfl) (Nat.le_of_ble_eq_true rfl) ?_
  refine ct_putF 30 tyX11 [.int 0, .int 0, .int 0, .int 0, .int 0, .int 0, .int 0, .int 0, .int 0, .int 0, .int 0, .ref (a + 1), .ref (a + 16), .ref (a + 17), .ref (a + 18), .ref (a + 19), .ref (a + 20), .ref (a + 21), .ref (a + 22), .ref (a + 23), .ref (a + 24), .ref (a + 25), .ref (a + 26), .ref (a + 27), .ref (a + 28), .ref (a + 29), .ref (a + 30), .ref (a + 31), .ref (a + 32), .ref (a + 33), .ref (a + 34), .null, .int 0, .int 0] dX11_init_180 rfl in_11 tyX11_ok nmX11 (by decide) kz_850 rfl rfl rfl rfl (Nat.le_of_ble_eq_true rfl) rfl ?_
  refine ct_aload0 dX11_init_183 ?_
  refine ct_bipush (64) dX11_init_184 (by decide) ?_
  refine ct_newarr 64 35 dX11_init_186 kz_91 (by decide) (by decide) (by decide) (by simp only [List.length_append, List.length_cons, List.length_nil, ct_l0, ct_l1, ct_l5, ct_l6, ct_l2, ct_l7, ct_l4, ct_l8, ct_l3, ct_l10]) (Nat.le_of_ble_eq_true rfl) (Nat.le_of_ble_eq_true rfl) ?_
  refine ct_putF 31 tyX11 [.int 0, .int 0, .int 0, .int 0, .int 0, .int 0, .int 0, .int 0, .int 0, .int 0, .int 0, .ref (a + 1), .ref (a + 16), .ref (a + 17), .ref (a + 18), .ref (a + 19), .ref (a + 20), .ref (a + 21), .ref (a + 22), .ref (a + 23), .ref (a + 24), .ref (a + 25), .ref (a + 26), .ref (a + 27), .ref (a + 28), .ref (a + 29), .ref (a + 30), .ref (a + 31), .ref (a + 32), .ref (a + 33), .ref (a + 34), .ref (a + 35), .int 0, .int 0] dX11_init_188 rfl in_11 tyX11_ok nmX11 (by decide) kz_852 rfl rfl rfl rfl (Nat.le_of_ble_eq_true rfl) rfl ?_
  refine ct_aload0 dX11_init_191 ?_
  refine ct_iconst (-1) dX11_init_192 (by decide) ?_
  refine ct_putI 32 tyX11 [.int 0, .int 0, .int 0, .int 0, .int 0, .int 0, .int 0, .int 0, .int 0, .int 0, .int 0, .ref (a + 1), .ref (a + 16), .ref (a + 17), .ref (a + 18), .ref (a + 19), .ref (a + 20), .ref (a + 21), .ref (a + 22), .ref (a + 23), .ref (a + 24), .ref (a + 25), .ref (a + 26), .ref (a + 27), .ref (a + 28), .ref (a + 29), .ref (a + 30), .ref (a + 31), .ref (a + 32), .ref (a + 33), .ref (a + 34), .ref (a + 35), .int (-1), .int 0] dX11_init_193 rfl in_11 tyX11_ok nmX11 (by decide) kz_854 rfl rfl rfl (Nat.le_of_ble_eq_true rfl) rfl ?_
  exact ct_ret [0, 0, 0, 0, 0, 0, 0, 0, 0, 0, 0, 0, 0, 0, 0, 0, 0, 0, 0, 0, 0, 0, 0, 0, 0, 0, 0, 0, 0, 0, 0, 0, -1] _ dX11_init_196 rfl (by decide) (Nat.le_of_ble_eq_true rfl) (Nat.le_of_ble_eq_true rfl) rfl
set_option maxRecDepth 20000 in
theorem c_ct11 {g : ev_G} (a : Nat) : ct_Met g m_X11_init 11 a 1 35 2099 (fun _ => True) ct_f11 [] (ct_Qc g ct_t11 a) (fun q => a ≤ q) := by
  refine ct_enter (L := [(0, .ref a)]) (by decide) rfl rfl rfl rfl rfl (Nat.le_of_ble_eq_true rfl) (fun q h => h) ?_
  refine ct_aload0 dX11_init_0 ?_
  refine ct_super dX11_init_1 kw_730 kz_55 kz_56 ?_
  refine ct_aload0 dX11_init_4 ?_
  refine ct_iconst (2) dX11_init_5 (by decide) ?_
  intro l p e R s m args below meth c H locs ls X z o t S hl
  have hJ := X.2.1.2.1
  have hsz : s.heap.size = a + 1 := X.2.1.2.2.2.1
  have hR := X.2.2.1
  have z : H.size = a + 1 := z
  refine W.anew X.1.1 X.1.2.1 X.1.2.2.2.2.1 (X.2.1.1 _ kw_731) (va_AO.use hJ.2.1.1.2.2.2.2.2.2.2) (g := F0 m 6 ls [.int 2, .ref a]) rfl dX11_init_6 rfl (by decide) (by decide) (by omega) (by show 0 + (2 : Int32).toNatClampNeg ≤ _; rw [show (2 : Int32).toNatClampNeg = 2 from rfl]; omega) fun cA kA comp f1 f2 f3 f4 => ?_
  obtain ⟨kA', comp', k1, k2, k3, k4⟩ := (hJ.1.2 5 (ev_cH g, .object "MulePostBishopsLaw$Board") rfl).2
  have hcA : cA = ev_cH g := Option.some.inj (f1.symm.trans k4)
  subst hcA
  generalize hH1 : H.push ({ cls := ev_cH g, slots := Array.replicate (2 : Int32).toNatClampNeg .null, vm := .none } : Cell) = H1
  have z1 : H1.size = H.size + 1 := by rw [← hH1, Array.size_push]
  have e1 : H1[H.size]? = some (arrV (ev_cH g) (2 : Int32).toNatClampNeg (fun _ => .null)) := by rw [← hH1, Array.getElem?_push_size, ← arrV_new]
  have o1 : ∀ q : Nat, q < H.size → H1[q]? = H[q]? := fun q hq => by rw [← hH1, Array.getElem?_push, if_neg (Nat.ne_of_lt hq)]
  rw [z] at z1 e1 o1 ⊢
  have r1 : va_at (ev_D g) ev_cl (a + 1, ct_bds g 0 (a + 1)) H1 := by
    show H1[a + 1]? = some (vp_cell (ev_cH g) (2, .inr (.inr (.inr (.inr (fun j => if j < 0 then some (a + 1 + 1 + 7 * j) else none))))))
    rw [e1, vp_cell_q]
    exact congrArg some (ct_arrV (fun j _ => by rw [if_neg (Nat.not_lt_zero j)]; rfl))
  have S1 : va_S (fun q => a ≤ q) s.heap H1 locs := ⟨Nat.le_trans S.1 (by omega), fun q h1 h2 => (o1 q (by omega)).trans (S.2.1 q h1 h2), S.2.2⟩
  refine ct_board (i := 0) (x := 0) dX11_init_9 dX11_init_10 dX11_init_11 dX11_init_14 dX11_init_15 dX11_init_18 (by decide) rfl (by decide) (by decide) X (by omega) (o.kept (o1 _ (by show a < a + 1; omega))) r1 ct_P.nil S1 hl rfl rfl (fun H3 locs3 c3 s3 z3 o3 r3 t3 S3 hc3 hs3 => ?_)
  refine ct_board (i := 1) (x := 1) dX11_init_19 dX11_init_20 dX11_init_21 dX11_init_24 dX11_init_25 dX11_init_28 (by decide) rfl (by decide) (by decide) X z3 o3 r3 t3 S3 hl hc3 hs3 (fun H4 locs4 c4 s4 z4 o4 r4 t4 S4 hc4 hs4 => ?_)
  subst hc4 hs4
  refine ct_putFW (K := []) 11 tyX11 [.int 0, .int 0, .int 0, .int 0, .int 0, .int 0, .int 0, .int 0, .int 0, .int 0, .int 0, .ref (a + 1), .null, .null, .null, .null, .null, .null, .null, .null, .null, .null, .null, .null, .null, .null, .null, .null, .null, .null, .null, .null, .int 0, .int 0] dX11_init_29 rfl in_11 tyX11_ok nmX11 (by decide) kw_818 rfl rfl rfl rfl (Nat.le_of_ble_eq_true rfl) rfl X o4 S4 (fun H5 locs5 z5 o5 ob5 S5 => ?_)
  have t5 : ct_P g ([((26, 2), [])] ++ ct_t10 ++ ct_t10) (a + 1) H5 := by
    have t6 : ct_P g (((26, 2), []) :: ct_bs 2) (a + 1) H4 := ct_P.cons (ct_bfull r4) t4
    exact (t6.kept (fun q h1 h2 => o5 q (Nat.ne_of_gt h1)))
  exact c_ct11b l p e R s m args below meth c H5 locs5 ls X (by rw [z5, z4]; rfl) ob5 t5 S5 hl
