/-! ===== rows: locals, stack, returns ===== -/
theorem ev_cat (g : ev_G) (v : ev_V) (hg : (ev_fm g).category = 1) : (ev_c g v).category = ev_w v := by
  rcases v with x | q | q | x | x | x | ⟨t, a⟩ <;> first | rfl | skip
  show (ev_cx g t a).category = 1
  unfold ev_cx
  split <;> first | rfl | exact hg
/-- what the locals are behind a store of a value of one word -/
theorem ev_L_store {g : ev_G} {S : ev_S} {L : List (Option ev_V)} {ls ls' : Array Slot} {i : Nat} {v : ev_V} (hL : ev_L g S.2.1 L ls) (hfm : (ev_fm g).category = 1) (hok : ev_ok g S.2.1 v) (hi : i < L.length) (hw : ∀ u, i ≠ 0 → L[i - 1]? = some (some u) → ev_w u = 1)
    (h' : lv_has ls' L.length ((i, ev_c g v) :: (((List.range L.length).filterMap (fun k => (L[k]?.join).map (fun u => (k, ev_c g u)))).filter (fun q => !(q.1 == i) && !(q.1 + 1 == i && q.2.category == 2))))) : ev_L g S.2.1 (L.set i (some v)) ls' := by
  refine ⟨by rw [h'.1, List.length_set], h'.2.1, fun k u hk => ?_⟩
  by_cases hki : k = i
  · subst hki
    rw [List.getElem?_set_self hi] at hk
    cases hk
    exact ⟨h'.2.2 (k, ev_c g v) List.mem_cons_self, hok⟩
  · rw [List.getElem?_set_ne (Ne.symm hki)] at hk
    refine ⟨h'.2.2 (k, ev_c g u) (List.mem_cons_of_mem _ (List.mem_filter.mpr ⟨List.mem_filterMap.mpr ⟨k, ?_, ?_⟩, ?_⟩)), (hL.2.2 k u hk).2⟩
    · exact List.mem_range.mpr (List.getElem?_eq_some_iff.mp hk).1
    · rw [hk]; rfl
    · simp only [Bool.and_eq_true, Bool.not_eq_true', beq_eq_false_iff_ne, ne_eq, Bool.and_eq_false_iff]
      refine ⟨hki, ?_⟩
      by_cases h1 : k + 1 = i
      · right
        rw [ev_cat g u hfm]
        have := hw u (by omega) (by rw [show i - 1 = k by omega]; exact hk)
        omega
      · exact Or.inl h1
theorem ev_L_pairs {g : ev_G} {S : ev_S} {L : List (Option ev_V)} {ls : Array Slot} (hL : ev_L g S.2.1 L ls) : lv_has ls L.length ((List.range L.length).filterMap (fun k => (L[k]?.join).map (fun u => (k, ev_c g u)))) := by
  refine ⟨hL.1, hL.2.1, fun q hq => ?_⟩
  obtain ⟨k, hk, h1⟩ := List.mem_filterMap.mp hq
  cases h2 : L[k]?.join with
  | none => rw [h2] at h1; cases h1
  | some u =>
    rw [h2] at h1
    cases h1
    have h3 : L[k]? = some (some u) := by
      cases h4 : L[k]? with
      | none => rw [h4] at h2; cases h2
      | some z => rw [h4] at h2; exact congrArg some h2
    exact (hL.2.2 k u h3).1
theorem ev_L_dstore {g : ev_G} {S : ev_S} {L : List (Option ev_V)} {ls ls' : Array Slot} {i : Nat} {v : ev_V} (hL : ev_L g S.2.1 L ls) (hfm : (ev_fm g).category = 1) (hok : ev_ok g S.2.1 v) (hi : i + 1 < L.length) (hw : ∀ u, i ≠ 0 → L[i - 1]? = some (some u) → ev_w u = 1)
    (h' : lv_has ls' L.length ((i, ev_c g v) :: (((List.range L.length).filterMap (fun k => (L[k]?.join).map (fun u => (k, ev_c g u)))).filter (fun q => !(q.1 == i) && (!(q.1 == i + 1) && !(q.1 + 1 == i && q.2.category == 2)))))) : ev_L g S.2.1 ((L.set i (some v)).set (i + 1) none) ls' := by
  refine ⟨by rw [h'.1, List.length_set, List.length_set], h'.2.1, fun k u hk => ?_⟩
  by_cases hki1 : k = i + 1
  · subst hki1
    rw [List.getElem?_set_self (by rw [List.length_set]; exact hi)] at hk
    cases hk
  rw [List.getElem?_set_ne (Ne.symm hki1)] at hk
  by_cases hki : k = i
  · subst hki
    rw [List.getElem?_set_self (by omega)] at hk
    cases hk
    exact ⟨h'.2.2 (k, ev_c g v) List.mem_cons_self, hok⟩
  · rw [List.getElem?_set_ne (Ne.symm hki)] at hk
    refine ⟨h'.2.2 (k, ev_c g u) (List.mem_cons_of_mem _ (List.mem_filter.mpr ⟨List.mem_filterMap.mpr ⟨k, ?_, ?_⟩, ?_⟩)), (hL.2.2 k u hk).2⟩
    · exact List.mem_range.mpr (List.getElem?_eq_some_iff.mp hk).1
    · rw [hk]; rfl
    · simp only [Bool.and_eq_true, Bool.not_eq_true', beq_eq_false_iff_ne, ne_eq, Bool.and_eq_false_iff]
      refine ⟨hki, hki1, ?_⟩
      by_cases h1 : k + 1 = i
      · right
        rw [ev_cat g u hfm]
        have := hw u (by omega) (by rw [show i - 1 = k by omega]; exact hk)
        omega
      · exact Or.inl h1
section EvLoc
variable {g : ev_G} {μ : ev_M} {d B pc : Nat} {L : List (Option ev_V)} {K : List ev_V} {S : ev_S} {Q : ev_O → ev_S → Prop}
theorem ev_iload_n {k : Fin 4} (x : Int32) (h : decode (ev_by μ) pc = .ok (.iload_n k, 1)) (hl : L[(k : Nat)]? = some (some (ev_i x))) (kk : ev_E g μ d B (pc + 1) L (ev_i x :: K) S Q) : ev_E g μ d B pc L K S Q := by
  intro l p e R s m args below meth c H locs cells slots mc ms Λ ls X hL hz hK
  exact lv_iload_n X.1.1 X.1.2.1 h rfl (hL.2.2 _ _ hl).1 (kk l p e R s m args below meth c H locs cells slots mc ms Λ ls X hL hz (List.forall_mem_cons.mpr ⟨trivial, hK⟩))
theorem ev_iload {i : Nat} (x : Int32) (h : decode (ev_by μ) pc = .ok (.iload i, 2)) (hl : L[i]? = some (some (ev_i x))) (kk : ev_E g μ d B (pc + 2) L (ev_i x :: K) S Q) : ev_E g μ d B pc L K S Q := by
  intro l p e R s m args below meth c H locs cells slots mc ms Λ ls X hL hz hK
  exact lv_iload X.1.1 X.1.2.1 h (hL.2.2 _ _ hl).1 (kk l p e R s m args below meth c H locs cells slots mc ms Λ ls X hL hz (List.forall_mem_cons.mpr ⟨trivial, hK⟩))
theorem ev_dload_n {k : Fin 4} (x : UInt64) (h : decode (ev_by μ) pc = .ok (.dload_n k, 1)) (hl : L[(k : Nat)]? = some (some (ev_d x))) (kk : ev_E g μ d B (pc + 1) L (ev_d x :: K) S Q) : ev_E g μ d B pc L K S Q := by
  intro l p e R s m args below meth c H locs cells slots mc ms Λ ls X hL hz hK
  exact lv_dload_n X.1.1 X.1.2.1 h rfl (hL.2.2 _ _ hl).1 (kk l p e R s m args below meth c H locs cells slots mc ms Λ ls X hL hz (List.forall_mem_cons.mpr ⟨trivial, hK⟩))
theorem ev_dload {i : Nat} (x : UInt64) (h : decode (ev_by μ) pc = .ok (.dload i, 2)) (hl : L[i]? = some (some (ev_d x))) (kk : ev_E g μ d B (pc + 2) L (ev_d x :: K) S Q) : ev_E g μ d B pc L K S Q := by
  intro l p e R s m args below meth c H locs cells slots mc ms Λ ls X hL hz hK
  exact lv_dload X.1.1 X.1.2.1 h (hL.2.2 _ _ hl).1 (kk l p e R s m args below meth c H locs cells slots mc ms Λ ls X hL hz (List.forall_mem_cons.mpr ⟨trivial, hK⟩))
/-- values that are references, and nothing but references -/
def ev_isr (v : ev_V) : Bool := match v with
  | .inr (.inl _) => true
  | .inr (.inr (.inl _)) => true
  | .inr (.inr (.inr (.inr (.inr (.inr (3, _)))))) => false
  | .inr (.inr (.inr (.inr (.inr (.inr (5, _)))))) => false
  | .inr (.inr (.inr (.inr (.inr (.inr _))))) => true
  | _ => false
theorem ev_isr_ref {g : ev_G} {v : ev_V} (h : ev_isr v = true) : ∃ a : Nat, ev_c g v = .ref a := by
  rcases v with x | q | q | x | x | x | ⟨t, a⟩
  · cases h
  · exact ⟨q.2, rfl⟩
  · exact ⟨q.2, rfl⟩
  · cases h
  · cases h
  · cases h
  · show ∃ b, ev_cx g t a = .ref b
    unfold ev_cx
    split <;> first | exact ⟨_, rfl⟩ | exact absurd h (by simp [ev_isr])
theorem ev_aload_n {k : Fin 4} (v : ev_V) (h : decode (ev_by μ) pc = .ok (.aload_n k, 1)) (hr : ev_isr v = true) (hl : L[(k : Nat)]? = some (some v)) (kk : ev_E g μ d B (pc + 1) L (v :: K) S Q) : ev_E g μ d B pc L K S Q := by
  intro l p e R s m args below meth c H locs cells slots mc ms Λ ls X hL hz hK
  obtain ⟨a, ha⟩ := ev_isr_ref (g := g) hr
  have h1 := kk l p e R s m args below meth c H locs cells slots mc ms Λ ls X hL hz (List.forall_mem_cons.mpr ⟨(hL.2.2 _ _ hl).2, hK⟩)
  rw [List.map_cons, ha] at h1
  exact lv_aload_n X.1.1 X.1.2.1 h rfl (by rw [← ha]; exact (hL.2.2 _ _ hl).1) h1
theorem ev_aload {i : Nat} (v : ev_V) (h : decode (ev_by μ) pc = .ok (.aload i, 2)) (hr : ev_isr v = true) (hl : L[i]? = some (some v)) (kk : ev_E g μ d B (pc + 2) L (v :: K) S Q) : ev_E g μ d B pc L K S Q := by
  intro l p e R s m args below meth c H locs cells slots mc ms Λ ls X hL hz hK
  obtain ⟨a, ha⟩ := ev_isr_ref (g := g) hr
  have h1 := kk l p e R s m args below meth c H locs cells slots mc ms Λ ls X hL hz (List.forall_mem_cons.mpr ⟨(hL.2.2 _ _ hl).2, hK⟩)
  rw [List.map_cons, ha] at h1
  exact lv_aload X.1.1 X.1.2.1 h (by rw [← ha]; exact (hL.2.2 _ _ hl).1) h1
end EvLoc
