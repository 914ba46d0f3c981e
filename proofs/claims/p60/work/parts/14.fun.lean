/-! ===== what lies in an object; functions ===== -/
/-- every child of a thing in the list lies in the list -/
def ev_chk : List (Nat × Nat) → Bool
  | [] => true
  | k :: ks => ((ev_ch k.1).all (fun q => decide ((k :: ks)[q.1]? = some q.2))) && ev_chk ks
theorem ev_chk_all : ev_chk ev_kl = true := by decide +kernel
theorem ev_chk_t : ∀ t, t < 6 → ev_chk (ev_tk t) = true := by decide +kernel
theorem ev_chk_at : ∀ (l : List (Nat × Nat)) (o : Nat) (k : Nat × Nat), ev_chk l = true → l[o]? = some k → ∀ q ∈ ev_ch k.1, l[o + q.1]? = some q.2 := by
  intro l
  induction l with
  | nil => intro o k h ho; simp at ho
  | cons x xs ih =>
    intro o k h ho q hq
    rw [ev_chk, Bool.and_eq_true] at h
    cases o with
    | zero =>
      simp at ho
      subst ho
      have h1 := List.all_eq_true.mp h.1 q hq
      rw [Nat.zero_add]
      exact of_decide_eq_true h1
    | succ o =>
      have h2 := ih o k h.2 (by simpa using ho) q hq
      rw [show o + 1 + q.1 = (o + q.1) + 1 by omega]
      simpa using h2
theorem ev_tk_big {t : Nat} (h : 6 ≤ t) : ev_tk t = [(23, t - 10)] := by
  unfold ev_tk
  split <;> first | omega | rfl
theorem ev_child {g : ev_G} {Λ : ev_Y} {k : Nat × Nat} {a : Nat} (h : ev_at g Λ k a) (q : Nat × (Nat × Nat)) (hq : q ∈ ev_ch k.1) : ev_at g Λ q.2 (a + q.1) := by
  rcases ev_mem_al.mp h with ⟨o, ho, e⟩ | ⟨x, hx, o, ho, e⟩
  · cases e
    have h4 : ev_kl[o]? = some (ev_kd o) := by
      unfold ev_kd
      rw [List.getD_eq_getElem?_getD, List.getElem?_eq_getElem (by rw [ev_kl_len]; exact ho)]
      rfl
    have h5 := ev_chk_at ev_kl o _ ev_chk_all h4 q hq
    have h8 : o + q.1 < 505 := by
      have := (List.getElem?_eq_some_iff.mp h5).1
      rw [ev_kl_len] at this
      exact this
    refine ev_mem_al.mpr (Or.inl ⟨o + q.1, h8, ?_⟩)
    show (ev_b g + o + q.1, q.2) = (ev_b g + (o + q.1), ev_kd (o + q.1))
    unfold ev_kd
    rw [List.getD_eq_getElem?_getD, h5, Nat.add_assoc]
    rfl
  · cases e
    have h4 : (ev_tk x.1)[o]? = some ((ev_tk x.1).getD o (99, 0)) := by
      rw [List.getD_eq_getElem?_getD, List.getElem?_eq_getElem ho]
      rfl
    by_cases h6 : x.1 < 6
    · have h5 := ev_chk_at (ev_tk x.1) o _ (ev_chk_t _ h6) h4 q hq
      refine ev_mem_al.mpr (Or.inr ⟨x, hx, o + q.1, (List.getElem?_eq_some_iff.mp h5).1, ?_⟩)
      show (x.2 + o + q.1, q.2) = (x.2 + (o + q.1), (ev_tk x.1).getD (o + q.1) (99, 0))
      rw [List.getD_eq_getElem?_getD, h5, Nat.add_assoc]
      rfl
    · rw [ev_tk_big (by omega)] at ho hq
      have ho : o < 1 := ho
      obtain rfl : o = 0 := by omega
      exact absurd hq List.not_mem_nil
/-- the method answers v (nothing: none) and leaves the memory S' -/
def ev_Fn (g : ev_G) (μ : ev_M) (d : Nat) (args : List ev_V) (S : ev_S) (ov : Option ev_V) (S' : ev_S) : Prop := ∀ Q : ev_O → ev_S → Prop, Q (.inl ov) S' → ev_Cv g μ d 0 args S Q
theorem ev_Cv.mono {g : ev_G} {μ : ev_M} {d B : Nat} {args : List ev_V} {S : ev_S} {Q Q' : ev_O → ev_S → Prop} (hQ : ∀ o S', Q o S' → Q' o S') (h : ev_Cv g μ d B args S Q) : ev_Cv g μ d B args S Q' := by
  intro hok l hl
  intro p e ha hc hk s m as below hf happ hP hK
  obtain ⟨n, o, h1, h2, h3, h4⟩ := h hok l hl p e ha hc hk s m as below hf happ hP hK
  refine ⟨n, o, h1, h2, h3, ?_⟩
  rcases h4 with ⟨⟨ov, S', c1, c2, c3, c4⟩, b4⟩ | ⟨q, e1, E, ce, L', ⟨k, S', c1, c2, c3, c4⟩, e2⟩
  · exact Or.inl ⟨⟨ov, S', c1, c2, hQ _ _ c3, c4⟩, b4⟩
  · exact Or.inr ⟨q, e1, E, ce, L', ⟨k, S', c1, c2, hQ _ _ c3, c4⟩, e2⟩
theorem ev_Fn.of {g : ev_G} {μ : ev_M} {d : Nat} {args : List ev_V} {S S' : ev_S} {ov : Option ev_V} (h : ev_Cv g μ d 0 args S (fun o z => o = .inl ov ∧ z = S')) : ev_Fn g μ d args S ov S' := by
  intro Q hQ
  refine h.mono ?_
  rintro o z ⟨rfl, rfl⟩
  exact hQ

/-- what a caller by the receiver's class must know of a method -/
def ev_Mv (μ' : ev_M) (C : String) (n : Nat) : Prop := ev_hh μ' = [] ∧ Cond.instanceMethod (ev_mn μ') ∈ ev_gw ∧ Cond.selects C (ev_mn μ') (ev_mn μ') ∈ ev_gw ∧ Cond.initialized C ∈ ev_gw ∧ ev_cd μ' ∈ ev_gw ∧ ((ev_mn μ').cls = C ∧ (ev_mn μ').cls ≠ "java/lang/invoke/MethodHandle" ∧ (ev_mn μ').cls ≠ "java/lang/invoke/VarHandle" ∧ (parseMethodDescriptor (ev_mn μ').desc).map (fun d => d.parameters.length) = some n) ∧ ev_ml μ' ≤ 11
def ev_Ms (μ' : ev_M) (n : Nat) : Prop := ev_hh μ' = [] ∧ Cond.static (ev_mn μ') ∈ ev_gw ∧ Cond.initialized (ev_mn μ').cls ∈ ev_gw ∧ ev_cd μ' ∈ ev_gw ∧ ((ev_mn μ').cls ≠ "java/lang/invoke/MethodHandle" ∧ (ev_mn μ').cls ≠ "java/lang/invoke/VarHandle" ∧ (parseMethodDescriptor (ev_mn μ').desc).map (fun d => d.parameters.length) = some n) ∧ ev_ml μ' ≤ 11
section EvFn
variable {g : ev_G} {μ : ev_M} {d B pc : Nat} {L : List (Option ev_V)} {K : List ev_V} {S : ev_S} {Q : ev_O → ev_S → Prop}
/-- calls by contracts that may end in several ways -/
theorem ev_cV {μ' : ev_M} {n index : Nat} {C : String} (M : ev_Mv μ' C n) (d' B' ci : Nat) {T : u_T} {N a : Nat} (As : List ev_V) (K : List ev_V) {Q' : ev_O → ev_S → Prop} {K0 : List ev_V} (h : decode (ev_by μ) pc = .ok (.invokevirtual index, 3)) (hw1 : Cond.methodLink (ev_own μ) index (ev_mn μ') ∈ ev_gw) (hcl : ev_cl[ci]? = some (C, T, N)) (hci : ci < 16)
    (hn : As.length = n) (hdd : d' + 1 ≤ d) (hB : B' ≤ B) (hcat : (K.map ev_w).sum ≤ 8) (hM : ev_Cv g μ' d' B' (ev_o ci a :: As) S Q') (kk : ∀ o S', Q' o S' → ev_After g μ d (B - B') pc L K S' Q o) (hK0 : As.reverse ++ ev_o ci a :: K = K0) : ev_E g μ d B pc L K0 S Q := by
  subst hK0
  exact ev_callV μ' d' B' index ci As h M.1 hcl hci hw1 M.2.1 M.2.2.1 M.2.2.2.1 M.2.2.2.2.1 M.2.2.2.2.2.1 hn hdd hB M.2.2.2.2.2.2 hcat hM kk
theorem ev_cS {μ' : ev_M} {n index : Nat} (M : ev_Ms μ' n) (d' B' : Nat) (As : List ev_V) (K : List ev_V) {Q' : ev_O → ev_S → Prop} {K0 : List ev_V} (h : decode (ev_by μ) pc = .ok (.invokestatic index, 3)) (hw1 : Cond.methodLink (ev_own μ) index (ev_mn μ') ∈ ev_gw)
    (hn : As.length = n) (hdd : d' + 1 ≤ d) (hB : B' ≤ B) (hcat : (K.map ev_w).sum ≤ 8) (hM : ev_Cv g μ' d' B' As S Q') (kk : ∀ o S', Q' o S' → ev_After g μ d (B - B') pc L K S' Q o) (hK0 : As.reverse ++ K = K0) : ev_E g μ d B pc L K0 S Q := by
  subst hK0
  exact ev_callS μ' d' B' index As h M.1 hw1 M.2.1 M.2.2.1 M.2.2.2.1 M.2.2.2.2.1 hn hdd hB M.2.2.2.2.2 hcat hM kk
theorem ev_cN {μ' : ev_M} {n index : Nat} (M : ev_Ms μ' n) (d' B' : Nat) (As : List ev_V) (K : List ev_V) {Q' : ev_O → ev_S → Prop} {K0 : List ev_V} {host : String} (h : decode (ev_by μ) pc = .ok (.invokestatic index, 3)) (hl : (ev_own μ, (index, (ev_mn μ', host))) ∈ ev_ne)
    (hn : As.length = n) (hdd : d' + 1 ≤ d) (hB : B' ≤ B) (hcat : (K.map ev_w).sum ≤ 8) (hM : ev_Cv g μ' d' B' As S Q') (kk : ∀ o S', Q' o S' → ev_After g μ d (B - B') pc L K S' Q o) (hK0 : As.reverse ++ K = K0) : ev_E g μ d B pc L K0 S Q := by
  subst hK0
  exact ev_callN μ' d' B' index As h M.1 hl M.2.1 M.2.2.1 M.2.2.2.1 M.2.2.2.2.1 hn hdd hB M.2.2.2.2.2 hcat hM kk
theorem ev_cK {μ' : ev_M} {n index : Nat} (M : ev_Mv μ' "java/lang/String" n) (d' B' : Nat) {i : Nat} (As : List ev_V) (K : List ev_V) {Q' : ev_O → ev_S → Prop} {K0 : List ev_V} (h : decode (ev_by μ) pc = .ok (.invokevirtual index, 3)) (hw1 : Cond.methodLink (ev_own μ) index (ev_mn μ') ∈ ev_gw)
    (hn : As.length = n) (hdd : d' + 1 ≤ d) (hB : B' ≤ B) (hcat : (K.map ev_w).sum ≤ 8) (hM : ev_Cv g μ' d' B' (ev_x 1 i :: As) S Q') (kk : ∀ o S', Q' o S' → ev_After g μ d (B - B') pc L K S' Q o) (hK0 : As.reverse ++ ev_x 1 i :: K = K0) : ev_E g μ d B pc L K0 S Q := by
  subst hK0
  exact ev_callK μ' d' B' index As h M.1 hw1 M.2.1 M.2.2.1 M.2.2.2.1 M.2.2.2.2.1 M.2.2.2.2.2.1 hn hdd hB M.2.2.2.2.2.2 hcat hM kk
/-- calls of functions -/
theorem ev_one {v : ev_V} {S1 : ev_S} (kk : ev_E g μ d B (pc + 3) L (v :: K) S1 Q) : ∀ o S', (o = .inl (some v) ∧ S' = S1) → ev_After g μ d (B - 0) pc L K S' Q o := by
  rintro o S' ⟨rfl, rfl⟩
  exact kk
theorem ev_non {S1 : ev_S} (kk : ev_E g μ d B (pc + 3) L K S1 Q) : ∀ o S', (o = .inl none ∧ S' = S1) → ev_After g μ d (B - 0) pc L K S' Q o := by
  rintro o S' ⟨rfl, rfl⟩
  exact kk
end EvFn
/-- a store may go there -/
def ev_hb (L : List (Option ev_V)) (k : Nat) : Bool := match k with
  | 0 => true
  | k + 1 => match L[k]? with
    | some (some u) => ev_w u == 1
    | _ => true
theorem ev_hw {L : List (Option ev_V)} {k : Nat} (h : ev_hb L k = true) : ∀ u, k ≠ 0 → L[k - 1]? = some (some u) → ev_w u = 1 := by
  intro u hk hu
  cases k with
  | zero => exact absurd rfl hk
  | succ k =>
    rw [Nat.add_sub_cancel] at hu
    simp only [ev_hb, hu] at h
    simpa using h
/-- locals forgotten -/
def ev_mk : List Bool → List (Option ev_V) → List (Option ev_V)
  | b :: bs, x :: xs => (if b then x else none) :: ev_mk bs xs
  | _, xs => xs
theorem ev_mk_at : ∀ (bs : List Bool) (L : List (Option ev_V)), (ev_mk bs L).length = L.length ∧ ∀ (i : Nat) (v : ev_V), (ev_mk bs L)[i]? = some (some v) → L[i]? = some (some v) := by
  intro bs
  induction bs with
  | nil => intro L; cases L <;> exact ⟨rfl, fun _ _ h => h⟩
  | cons b bs ih =>
    intro L
    cases L with
    | nil => exact ⟨rfl, fun _ _ h => h⟩
    | cons x xs =>
      obtain ⟨h1, h2⟩ := ih xs
      refine ⟨by simp [ev_mk, h1], fun i v h => ?_⟩
      cases i with
      | zero =>
        simp only [ev_mk, List.getElem?_cons_zero] at h ⊢
        cases b
        · cases h
        · exact h
      | succ i =>
        simp only [ev_mk, List.getElem?_cons_succ] at h ⊢
        exact h2 i v h
section EvFm
variable {g : ev_G} {μ : ev_M} {d B pc : Nat} {L : List (Option ev_V)} {K : List ev_V} {S : ev_S} {Q : ev_O → ev_S → Prop}
theorem ev_fgm (bs : List Bool) (kk : ev_E g μ d B pc (ev_mk bs L) K S Q) : ev_E g μ d B pc L K S Q := ev_forget (ev_mk_at bs L).2 (ev_mk_at bs L).1 kk
theorem ev_fV {μ' : ev_M} {n index : Nat} {C : String} (M : ev_Mv μ' C n) (d' ci : Nat) {T : u_T} {N a : Nat} (As : List ev_V) (K : List ev_V) {K0 : List ev_V} {v : ev_V} {S1 : ev_S} (h : decode (ev_by μ) pc = .ok (.invokevirtual index, 3)) (hw1 : Cond.methodLink (ev_own μ) index (ev_mn μ') ∈ ev_gw) (hcl : ev_cl[ci]? = some (C, T, N)) (hci : ci < 16)
    (hn : As.length = n) (hdd : d' + 1 ≤ d) (hcat : (K.map ev_w).sum ≤ 8) (hM : ev_Fn g μ' d' (ev_o ci a :: As) S (some v) S1) (kk : ev_E g μ d B (pc + 3) L (v :: K) S1 Q) (hK0 : As.reverse ++ ev_o ci a :: K = K0) : ev_E g μ d B pc L K0 S Q :=
  ev_cV M d' 0 ci As K h hw1 hcl hci hn hdd (Nat.zero_le _) hcat (hM (fun o z => o = .inl (some v) ∧ z = S1) ⟨rfl, rfl⟩) (ev_one kk) hK0
theorem ev_fVn {μ' : ev_M} {n index : Nat} {C : String} (M : ev_Mv μ' C n) (d' ci : Nat) {T : u_T} {N a : Nat} (As : List ev_V) (K : List ev_V) {K0 : List ev_V} {S1 : ev_S} (h : decode (ev_by μ) pc = .ok (.invokevirtual index, 3)) (hw1 : Cond.methodLink (ev_own μ) index (ev_mn μ') ∈ ev_gw) (hcl : ev_cl[ci]? = some (C, T, N)) (hci : ci < 16)
    (hn : As.length = n) (hdd : d' + 1 ≤ d) (hcat : (K.map ev_w).sum ≤ 8) (hM : ev_Fn g μ' d' (ev_o ci a :: As) S none S1) (kk : ev_E g μ d B (pc + 3) L K S1 Q) (hK0 : As.reverse ++ ev_o ci a :: K = K0) : ev_E g μ d B pc L K0 S Q :=
  ev_cV M d' 0 ci As K h hw1 hcl hci hn hdd (Nat.zero_le _) hcat (hM (fun o z => o = .inl none ∧ z = S1) ⟨rfl, rfl⟩) (ev_non kk) hK0
theorem ev_fS {μ' : ev_M} {n index : Nat} (M : ev_Ms μ' n) (d' : Nat) (As : List ev_V) (K : List ev_V) {K0 : List ev_V} {v : ev_V} {S1 : ev_S} (h : decode (ev_by μ) pc = .ok (.invokestatic index, 3)) (hw1 : Cond.methodLink (ev_own μ) index (ev_mn μ') ∈ ev_gw)
    (hn : As.length = n) (hdd : d' + 1 ≤ d) (hcat : (K.map ev_w).sum ≤ 8) (hM : ev_Fn g μ' d' As S (some v) S1) (kk : ev_E g μ d B (pc + 3) L (v :: K) S1 Q) (hK0 : As.reverse ++ K = K0) : ev_E g μ d B pc L K0 S Q :=
  ev_cS M d' 0 As K h hw1 hn hdd (Nat.zero_le _) hcat (hM (fun o z => o = .inl (some v) ∧ z = S1) ⟨rfl, rfl⟩) (ev_one kk) hK0
theorem ev_fSn {μ' : ev_M} {n index : Nat} (M : ev_Ms μ' n) (d' : Nat) (As : List ev_V) (K : List ev_V) {K0 : List ev_V} {S1 : ev_S} (h : decode (ev_by μ) pc = .ok (.invokestatic index, 3)) (hw1 : Cond.methodLink (ev_own μ) index (ev_mn μ') ∈ ev_gw)
    (hn : As.length = n) (hdd : d' + 1 ≤ d) (hcat : (K.map ev_w).sum ≤ 8) (hM : ev_Fn g μ' d' As S none S1) (kk : ev_E g μ d B (pc + 3) L K S1 Q) (hK0 : As.reverse ++ K = K0) : ev_E g μ d B pc L K0 S Q :=
  ev_cS M d' 0 As K h hw1 hn hdd (Nat.zero_le _) hcat (hM (fun o z => o = .inl none ∧ z = S1) ⟨rfl, rfl⟩) (ev_non kk) hK0
theorem ev_fN {μ' : ev_M} {n index : Nat} (M : ev_Ms μ' n) (d' : Nat) (As : List ev_V) (K : List ev_V) {K0 : List ev_V} {v : ev_V} {S1 : ev_S} {host : String} (h : decode (ev_by μ) pc = .ok (.invokestatic index, 3)) (hl : (ev_own μ, (index, (ev_mn μ', host))) ∈ ev_ne)
    (hn : As.length = n) (hdd : d' + 1 ≤ d) (hcat : (K.map ev_w).sum ≤ 8) (hM : ev_Fn g μ' d' As S (some v) S1) (kk : ev_E g μ d B (pc + 3) L (v :: K) S1 Q) (hK0 : As.reverse ++ K = K0) : ev_E g μ d B pc L K0 S Q :=
  ev_cN M d' 0 As K h hl hn hdd (Nat.zero_le _) hcat (hM (fun o z => o = .inl (some v) ∧ z = S1) ⟨rfl, rfl⟩) (ev_one kk) hK0
theorem ev_fNn {μ' : ev_M} {n index : Nat} (M : ev_Ms μ' n) (d' : Nat) (As : List ev_V) (K : List ev_V) {K0 : List ev_V} {S1 : ev_S} {host : String} (h : decode (ev_by μ) pc = .ok (.invokestatic index, 3)) (hl : (ev_own μ, (index, (ev_mn μ', host))) ∈ ev_ne)
    (hn : As.length = n) (hdd : d' + 1 ≤ d) (hcat : (K.map ev_w).sum ≤ 8) (hM : ev_Fn g μ' d' As S none S1) (kk : ev_E g μ d B (pc + 3) L K S1 Q) (hK0 : As.reverse ++ K = K0) : ev_E g μ d B pc L K0 S Q :=
  ev_cN M d' 0 As K h hl hn hdd (Nat.zero_le _) hcat (hM (fun o z => o = .inl none ∧ z = S1) ⟨rfl, rfl⟩) (ev_non kk) hK0
theorem ev_fK {μ' : ev_M} {n index : Nat} (M : ev_Mv μ' "java/lang/String" n) (d' : Nat) {i : Nat} (As : List ev_V) (K : List ev_V) {K0 : List ev_V} {v : ev_V} {S1 : ev_S} (h : decode (ev_by μ) pc = .ok (.invokevirtual index, 3)) (hw1 : Cond.methodLink (ev_own μ) index (ev_mn μ') ∈ ev_gw)
    (hn : As.length = n) (hdd : d' + 1 ≤ d) (hcat : (K.map ev_w).sum ≤ 8) (hM : ev_Fn g μ' d' (ev_x 1 i :: As) S (some v) S1) (kk : ev_E g μ d B (pc + 3) L (v :: K) S1 Q) (hK0 : As.reverse ++ ev_x 1 i :: K = K0) : ev_E g μ d B pc L K0 S Q :=
  ev_cK M d' 0 As K h hw1 hn hdd (Nat.zero_le _) hcat (hM (fun o z => o = .inl (some v) ∧ z = S1) ⟨rfl, rfl⟩) (ev_one kk) hK0
end EvFm
