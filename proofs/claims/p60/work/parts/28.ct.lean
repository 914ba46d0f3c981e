/-! ===== a tree is made, in the world ===== -/
def ct_row (tl : ct_T) (i : Nat) : Nat → Int32 := ct_r (tl.getD i ((99, 0), [])).2
theorem ev_tk_pos (t : Nat) : 0 < (ev_tk t).length := by
  by_cases h : t < 6
  · have : t = 0 ∨ t = 1 ∨ t = 2 ∨ t = 3 ∨ t = 4 ∨ t = 5 := by omega
    rcases this with rfl | rfl | rfl | rfl | rfl | rfl <;> decide
  · rw [ev_tk_big (by omega)]
    exact Nat.one_pos
theorem ev_newT {g : ev_G} {μ : ev_M} {d B pc : Nat} {L : List (Option ev_V)} {K : List ev_V} {S : ev_S} {Q : ev_O → ev_S → Prop} {μ' : ev_M} (I : ct_Mi μ' 0) {C : String} {T : u_T} {N ik ic : Nat} (t k' d' mc' ms' c9 : Nat) (fs0 : List Value) (tl' : ct_T) (ty0 : Nat → FieldType)
    (d0 : decode (ev_by μ) pc = .ok (.new ik, 3)) (d3 : decode (ev_by μ) (pc + 3) = .ok (.dup, 1)) (d4 : decode (ev_by μ) (pc + 4) = .ok (.invokespecial ic, 3))
    (hcl : ev_cl[k']? = some (C, T, N)) (hin : ∀ w ∈ u_ws C T N, w ∈ ev_gw) (hty : ∀ k, k < N → parseFieldDescriptor (T k).2.2.1 = some (ty0 k)) (hfs : ∀ j, j < N → defaultValue (ty0 j) = vp_V fs0 j)
    (w1 : Cond.classLink (ev_own μ) ik C ∈ ev_gw) (w2 : Cond.instantiable C N ∈ ev_gw) (w3 : Cond.initialized C ∈ ev_gw) (hlk : (∃ host, (ev_own μ, (ic, (ev_mn μ', host))) ∈ ev_ne) ∨ Cond.methodLink (ev_own μ) ic (ev_mn μ') ∈ ev_gw)
    (hM : ∀ q, ct_Met g μ' k' q d' mc' ms' (fun _ => True) fs0 [] (ct_Qc g tl' q) (fun x => q ≤ x)) (hlen : tl'.length = mc' + 1) (htk : tl'.map Prod.fst = ev_tk t) (h1 : 1 + mc' ≤ c9) (h2 : N + ms' ≤ 6 * c9) (hko : (ev_tk t)[0]? = some (ev_ko k'))
    (hdd : d' + 1 ≤ d) (hB : c9 ≤ B) (hcat : (K.map ev_w).sum ≤ 7) (kk : ∀ q, ev_lw g ((t, q) :: S.2.1) → ev_E g μ d (B - c9) (pc + 7) L (ev_o k' q :: K) (ev_nt S t q (ct_row tl')) Q) : ev_E g μ d B pc L K S Q := by
  intro l p e R s m args below meth c H locs cells slots mc ms Λ ls X hL hz hK
  have hfm := X.fm
  have X4 := X.rm
  have hJ : ct_J g s s.heap := ⟨X.2.1.2.1, X.2.1.2.2.1, X.2.1.2.2.1.1.2.2.2.2.2.1⟩
  have hKn := hJ.1.1 k' _ hcl
  have hP := ev_P_iff.mp X.2.2.2.1
  have hlt : ∀ x ∈ ev_al g S.2.1, x.1 < H.size := fun x hx => (hP x hx).lt
  have hS := X.2.2.2.2
  have hb : ev_b g + 505 ≤ H.size := by
    have := hlt (ev_b g + 504, ev_kd 504) (ev_mem_al.mpr (Or.inl ⟨504, by omega, rfl⟩))
    have : ev_b g + 504 < H.size := this
    omega
  refine W.newcK X.1.1 X.1.2.1 X.1.2.2.2.2.1 (X.2.1.1 _ w1) (X.2.1.1 _ w2) (X.2.1.1 _ w3) (g := F0 m pc ls (K.map (ev_c g))) rfl d0 (by omega) (by omega) hKn.2.1 rfl fun H1 kC hkC e1 z1 o1 => ?_
  have hnew : va_at (ev_D g) ev_cl (H.size, .inr (k', fs0)) H1 := ⟨_, hcl, (u_born ty0 X.2.1.1 hin hKn hkC e1 hty).to hfs⟩
  generalize hq : H.size = q at *
  have S1 : va_S (ev_A g) s.heap H1 locs := ⟨Nat.le_trans hS.1 (by omega), fun x h1 h2 => (o1 x (by have := hS.1; omega)).trans (hS.2.1 x h1 h2), hS.2.2⟩
  refine lv_dup X.1.1 X.1.2.1 d3 rfl ?_
  refine ct_cont (ct_run I k' q d' mc' ms' ic (pc + 4) fs0 [] (.ref q :: K.map (ev_c g)) X.1.1 X.1.2.1 X.1.2.2.2.1 hz X.1.2.2.2.2.1 X.2.1.1 hJ X.1.2.2.2.2.2.2.2 S1 (by omega) z1 hnew trivial (hM q) hlk rfl ⟨by omega, by omega⟩ (by show 1 + ((K.map (ev_c g)).map fun v => v.category).sum ≤ 8; rw [ev_cats hfm]; omega) d4 ⟨by omega, by omega⟩) fun v st₀ u T' Ls h0 e9 hLs _ hQ => ?_
  obtain ⟨hv, hsz2, hP2, hF⟩ := hQ
  have hv : v = none := by injection hv
  subst hv
  have keep : ∀ x, x < q → T'.heap[x]? = H[x]? := fun x hx => by
    rw [e9, hF.2 x (by rw [h0, z1]; omega) (Nat.not_le.mpr hx), h0]
    exact o1 x hx
  rw [← e9] at hsz2 hP2
  have hold : va_P (ev_D g) ev_cl (ev_ws g S) T'.heap := ev_P_iff.mpr (fun x hx => (hP x hx).kept (keep x.1 (hlt x hx)))
  have hlt2 : (ev_tk t).length = tl'.length := by rw [← htk, List.length_map]
  obtain ⟨hw9, hP9⟩ := ev_nt_P (t := t) (q := q) (R := ct_row tl') X.lw hb (fun y hy => by
    have h3 := ev_tk_pos y.1
    have := hlt (y.2 + ((ev_tk y.1).length - 1), (ev_tk y.1).getD ((ev_tk y.1).length - 1) (99, 0)) (ev_mem_al.mpr (Or.inr ⟨y, hy, (ev_tk y.1).length - 1, by omega, rfl⟩))
    have : y.2 + ((ev_tk y.1).length - 1) < q := this
    left
    omega) hold (fun o k hk => by
      have ho : o < tl'.length := by rw [← hlt2]; exact (List.getElem?_eq_some_iff.mp hk).1
      have ht : tl'[o]? = some tl'[o] := List.getElem?_eq_getElem ho
      have h3 := hP2 o _ ht
      have h4 : (tl'[o]).1 = k := by
        rw [← htk, List.getElem?_map, ht] at hk
        exact Option.some.inj hk
      have h5 : ct_row tl' o = ct_r (tl'[o]).2 := by rw [ct_row, List.getD_eq_getElem?_getD, ht]; rfl
      rw [ct_en, h4, ← h5] at h3
      exact h3)
  have S2 : va_S (ev_A g) s.heap T'.heap (locs ++ Ls) := ⟨by have := hS.1; omega, fun x h1 h2 => (keep x (by have := hS.1; omega)).trans (hS.2.1 x h1 h2), fun z hz => (List.mem_append.mp hz).elim (hS.2.2 z) (fun h => Nat.le_trans (show ev_b g ≤ q by omega) (hLs z h))⟩
  have X9 := X.grow (c' := 1 + mc') (n := N + ms') hw9 hP9 S2 hB h1 h2
  rw [← Nat.add_assoc, ← Nat.add_assoc] at X9
  exact kk q hw9 l p e R s m args below meth c T'.heap (locs ++ Ls) _ _ mc ms Λ ls X9 (ev_L_up (List.suffix_cons _ _) hL) hz (List.forall_mem_cons.mpr ⟨by
    have := ev_tree (g := g) (Λ := (t, q) :: S.2.1) (o := 0) List.mem_cons_self hko
    exact this, fun v hv => ev_ok_up (List.suffix_cons _ _) (hK v hv)⟩)
section EvNewT
variable {g : ev_G} {μ : ev_M} {d B pc : Nat} {L : List (Option ev_V)} {K : List ev_V} {S : ev_S} {Q : ev_O → ev_S → Prop}
theorem ev_newT0 {ik ic : Nat} (d0 : decode (ev_by μ) pc = .ok (.new ik, 3)) (d3 : decode (ev_by μ) (pc + 3) = .ok (.dup, 1)) (d4 : decode (ev_by μ) (pc + 4) = .ok (.invokespecial ic, 3)) (w1 : Cond.classLink (ev_own μ) ik RX11 ∈ ev_gw) (hlk : (∃ host, (ev_own μ, (ic, (ev_mn m_X11_init, host))) ∈ ev_ne) ∨ Cond.methodLink (ev_own μ) ic (ev_mn m_X11_init) ∈ ev_gw)
    (hB : 360 ≤ B) (hdd : 1 + 1 ≤ d) (hcat : (K.map ev_w).sum ≤ 7) (kk : ∀ q, ev_lw g ((0, q) :: S.2.1) → ev_E g μ d (B - 360) (pc + 7) L (ev_o 11 q :: K) (ev_nt S 0 q (ct_row ct_t11)) Q) : ev_E g μ d B pc L K S Q :=
  ev_newT ci_11 0 11 1 35 2099 360 ct_f11 ct_t11 tyX11 d0 d3 d4 rfl in_11 tyX11_ok ct_d11 w1 kw_726 kw_34 hlk c_ct11 ct_l11 (by decide +kernel) (by decide) (by decide) rfl hdd hB hcat kk
theorem ev_newT1 {ik ic : Nat} (d0 : decode (ev_by μ) pc = .ok (.new ik, 3)) (d3 : decode (ev_by μ) (pc + 3) = .ok (.dup, 1)) (d4 : decode (ev_by μ) (pc + 4) = .ok (.invokespecial ic, 3)) (w1 : Cond.classLink (ev_own μ) ik RX10 ∈ ev_gw) (hlk : (∃ host, (ev_own μ, (ic, (ev_mn m_X10_init, host))) ∈ ev_ne) ∨ Cond.methodLink (ev_own μ) ic (ev_mn m_X10_init) ∈ ev_gw)
    (hB : 80 ≤ B) (hdd : 0 + 1 ≤ d) (hcat : (K.map ev_w).sum ≤ 7) (kk : ∀ q, ev_lw g ((1, q) :: S.2.1) → ev_E g μ d (B - 80) (pc + 7) L (ev_o 10 q :: K) (ev_nt S 1 q (ct_row ct_t10)) Q) : ev_E g μ d B pc L K S Q :=
  ev_newT ci_10 1 10 0 6 369 80 ct_f10 ct_t10 tyX10 d0 d3 d4 rfl in_10 tyX10_ok ct_d10 w1 kw_733 kw_35 hlk c_ct10 ct_l10 (by decide +kernel) (by decide) (by decide) rfl hdd hB hcat kk
theorem ev_ishl {x y : Int32} (h : decode (ev_by μ) pc = .ok (.ishl, 1)) (kk : ev_E g μ d B (pc + 1) L (ev_i (x <<< (y &&& 31)) :: K) S Q) : ev_E g μ d B pc L (ev_i y :: ev_i x :: K) S Q := by
  intro l p e R s m args below meth c H locs cells slots mc ms Λ ls X hL hz hK
  exact lv_ishl X.1.1 X.1.2.1 h (kk l p e R s m args below meth c H locs cells slots mc ms Λ ls X hL hz (List.forall_mem_cons.mpr ⟨trivial, fun v hv => hK v (List.mem_cons_of_mem _ (List.mem_cons_of_mem _ hv))⟩))
theorem ev_ior {x y : Int32} (h : decode (ev_by μ) pc = .ok (.ior, 1)) (kk : ev_E g μ d B (pc + 1) L (ev_i (x ||| y) :: K) S Q) : ev_E g μ d B pc L (ev_i y :: ev_i x :: K) S Q := by
  intro l p e R s m args below meth c H locs cells slots mc ms Λ ls X hL hz hK
  exact lv_ior X.1.1 X.1.2.1 h (kk l p e R s m args below meth c H locs cells slots mc ms Λ ls X hL hz (List.forall_mem_cons.mpr ⟨trivial, fun v hv => hK v (List.mem_cons_of_mem _ (List.mem_cons_of_mem _ hv))⟩))
theorem ev_ixor {x y : Int32} (h : decode (ev_by μ) pc = .ok (.ixor, 1)) (kk : ev_E g μ d B (pc + 1) L (ev_i (x ^^^ y) :: K) S Q) : ev_E g μ d B pc L (ev_i y :: ev_i x :: K) S Q := by
  intro l p e R s m args below meth c H locs cells slots mc ms Λ ls X hL hz hK
  exact lv_ixor X.1.1 X.1.2.1 h (kk l p e R s m args below meth c H locs cells slots mc ms Λ ls X hL hz (List.forall_mem_cons.mpr ⟨trivial, fun v hv => hK v (List.mem_cons_of_mem _ (List.mem_cons_of_mem _ hv))⟩))
theorem ev_ldci {index : Nat} (x : Int32) (h : decode (ev_by μ) pc = .ok (.ldc index, 2)) (w : Cond.constant (ev_own μ) index x ∈ ev_gw) (kk : ev_E g μ d B (pc + 2) L (ev_i x :: K) S Q) : ev_E g μ d B pc L K S Q := by
  intro l p e R s m args below meth c H locs cells slots mc ms Λ ls X hL hz hK
  exact lv_ldc X.1.1 X.1.2.1 X.1.2.2.2.2.1 (X.2.1.1 _ w) h (kk l p e R s m args below meth c H locs cells slots mc ms Λ ls X hL hz (List.forall_mem_cons.mpr ⟨trivial, hK⟩))
theorem ev_ldciw {index : Nat} (x : Int32) (h : decode (ev_by μ) pc = .ok (.ldc_w index, 3)) (w : Cond.constant (ev_own μ) index x ∈ ev_gw) (kk : ev_E g μ d B (pc + 3) L (ev_i x :: K) S Q) : ev_E g μ d B pc L K S Q := by
  intro l p e R s m args below meth c H locs cells slots mc ms Λ ls X hL hz hK
  exact lv_ldcw X.1.1 X.1.2.1 X.1.2.2.2.2.1 (X.2.1.1 _ w) h (kk l p e R s m args below meth c H locs cells slots mc ms Λ ls X hL hz (List.forall_mem_cons.mpr ⟨trivial, hK⟩))
end EvNewT
def j_ishl (x y : Int32) : Int32 := x <<< (y &&& 31)
