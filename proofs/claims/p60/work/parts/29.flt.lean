/-! ===== rows: floats' bits ===== -/
def j_fcmpl (x y : UInt32) : Int32 := Op.cmpValue (FP.fcmp x y) .l
section EvFlt
variable {g : ev_G} {μ : ev_M} {d B pc : Nat} {L : List (Option ev_V)} {K : List ev_V} {S : ev_S} {Q : ev_O → ev_S → Prop}
theorem ev_fload_n {k : Fin 4} (x : UInt32) (h : decode (ev_by μ) pc = .ok (.fload_n k, 1)) (hl : L[(k : Nat)]? = some (some (ev_f x))) (kk : ev_E g μ d B (pc + 1) L (ev_f x :: K) S Q) : ev_E g μ d B pc L K S Q := by
  intro l p e R s m args below meth c H locs cells slots mc ms Λ ls X hL hz hK
  exact lv_fload_n X.1.1 X.1.2.1 h rfl (hL.2.2 _ _ hl).1 (kk l p e R s m args below meth c H locs cells slots mc ms Λ ls X hL hz (List.forall_mem_cons.mpr ⟨trivial, hK⟩))
theorem ev_fcmpl {x y : UInt32} (h : decode (ev_by μ) pc = .ok (.fcmp .l, 1)) (kk : ev_E g μ d B (pc + 1) L (ev_i (j_fcmpl x y) :: K) S Q) : ev_E g μ d B pc L (ev_f y :: ev_f x :: K) S Q := by
  intro l p e R s m args below meth c H locs cells slots mc ms Λ ls X hL hz hK
  exact lv_fcmp X.1.1 X.1.2.1 h (kk l p e R s m args below meth c H locs cells slots mc ms Λ ls X hL hz (List.forall_mem_cons.mpr ⟨trivial, fun v hv => hK v (List.mem_cons_of_mem _ (List.mem_cons_of_mem _ hv))⟩))
theorem ev_f2raw {index : Nat} {x : UInt32} (h : decode (ev_by μ) pc = .ok (.invokestatic index, 3)) (w1 : Cond.methodLink (ev_own μ) index ⟨"java/lang/Float", "floatToRawIntBits", "(F)I"⟩ ∈ ev_gw) (w2 : Cond.native ⟨"java/lang/Float", "floatToRawIntBits", "(F)I"⟩ ∈ ev_gw) (w3 : Cond.static ⟨"java/lang/Float", "floatToRawIntBits", "(F)I"⟩ ∈ ev_gw) (w4 : Cond.initialized "java/lang/Float" ∈ ev_gw) (hcat : (K.map ev_w).sum ≤ 8)
    (kk : ev_E g μ d B (pc + 3) L (ev_i x.toInt32 :: K) S Q) : ev_E g μ d B pc L (ev_f x :: K) S Q := by
  intro l p e R s m args below meth c H locs cells slots mc ms Λ ls X hL hz hK
  have hfm := X.fm
  have X4 := X.rm
  exact vn_f2i X.1.1 X.1.2.1 (by rw [X.1.2.2.2.1, hz]) X.1.2.2.2.2.1 (X.2.1.1 _ w1) (X.2.1.1 _ w2) (X.2.1.1 _ w3) (X.2.1.1 _ w4) (by omega) (by rw [ev_cats hfm]; omega) h (kk l p e R s m args below meth c H locs cells slots mc ms Λ ls X hL hz (List.forall_mem_cons.mpr ⟨trivial, fun v hv => hK v (List.mem_cons_of_mem _ hv)⟩))
end EvFlt
