/-! ===== rows: the ends; a throw; a throw passed on or caught; calls ===== -/
section EvEnd
variable {g : ev_G} {μ : ev_M} {d B pc : Nat} {L : List (Option ev_V)} {K : List ev_V} {S : ev_S} {Q : ev_O → ev_S → Prop}
theorem ev_ireturn {x : Int32} (ty : FieldType) (h : decode (ev_by μ) pc = .ok (.ireturn, 1)) (hr : ev_rt μ = some ty) (hn : narrow ty (.int x) = .int x) (hq : Q (.inl (some (ev_i x))) S) : ev_E g μ d B pc L [ev_i x] S Q := by
  intro l p e R s m args below meth c H locs cells slots mc ms Λ ls X hL hz hK
  have X4 := X.rm
  have X5 := X.sx
  have X6 := X.lw
  obtain ⟨X1, X2, X3, hP, hS⟩ := X
  refine W.widen (k := mc) (n := ms) (by omega) (by omega) (vx_ret ?_)
  exact W.zret (Qc := ev_Qc g Λ Q) (v := x) X1.1 X1.2.1 (by rw [X1.2.2.1, hr]) hn (fun t ht hW => ⟨some (ev_i x), S, rfl, fun v hv => by cases hv; trivial, hq, by rw [ht]; exact hP, hS.F ht, X5, X6⟩) hS.2.2 h X1.2.2.2.2.2.1
theorem ev_return (h : decode (ev_by μ) pc = .ok (.return_, 1)) (hr : ev_rt μ = none) (hq : Q (.inl none) S) : ev_E g μ d B pc L [] S Q := by
  intro l p e R s m args below meth c H locs cells slots mc ms Λ ls X hL hz hK
  have X4 := X.rm
  have X5 := X.sx
  have X6 := X.lw
  obtain ⟨X1, X2, X3, hP, hS⟩ := X
  refine W.widen (k := mc) (n := ms) (by omega) (by omega) (vx_ret ?_)
  exact W.vret (Qc := ev_Qc g Λ Q) X1.1 X1.2.1 (by rw [X1.2.2.1, hr]) (fun t ht hW => ⟨none, S, rfl, (fun v hv => by cases hv), hq, by rw [ht]; exact hP, hS.F ht, X5, X6⟩) hS.2.2 h X1.2.2.2.2.2.1
theorem ev_areturn {v : ev_V} (rt : FieldType) (h : decode (ev_by μ) pc = .ok (.areturn, 1)) (hv : ev_isr v = true) (hr : ev_rt μ = some rt) (hrt : (∃ n, rt = .object n) ∨ ∃ t, rt = .array t) (hq : Q (.inl (some v)) S) : ev_E g μ d B pc L [v] S Q := by
  intro l p e R s m args below meth c H locs cells slots mc ms Λ ls X hL hz hK
  obtain ⟨a, ha⟩ := ev_isr_ref (g := g) hv
  have X4 := X.rm
  have X5 := X.sx
  have X6 := X.lw
  obtain ⟨X1, X2, X3, hP, hS⟩ := X
  refine W.widen (k := mc) (n := ms) (by omega) (by omega) (vx_ret ?_)
  exact W.aret (Qc := ev_Qc g Λ Q) (v := ev_c g v) X1.1 X1.2.1 (by rw [X1.2.2.1, hr]) hrt (Or.inr ⟨a, ha⟩) (fun t ht hW => ⟨some v, S, rfl, fun w hw => by cases hw; exact hK v List.mem_cons_self, hq, by rw [ht]; exact hP, hS.F ht, X5, X6⟩) hS.2.2 h X1.2.2.2.2.2.1
theorem ev_freturn {x : UInt32} (h : decode (ev_by μ) pc = .ok (.freturn, 1)) (hr : ev_rt μ = some .float) (hq : Q (.inl (some (ev_f x))) S) : ev_E g μ d B pc L [ev_f x] S Q := by
  intro l p e R s m args below meth c H locs cells slots mc ms Λ ls X hL hz hK
  have X4 := X.rm
  have X5 := X.sx
  have X6 := X.lw
  obtain ⟨X1, X2, X3, hP, hS⟩ := X
  refine W.widen (k := mc) (n := ms) (by omega) (by omega) (vx_ret ?_)
  exact W.fret (Qc := ev_Qc g Λ Q) (v := x) X1.1 X1.2.1 (by rw [X1.2.2.1, hr]) (fun t ht hW => ⟨some (ev_f x), S, rfl, fun v hv => by cases hv; trivial, hq, by rw [ht]; exact hP, hS.F ht, X5, X6⟩) hS.2.2 h X1.2.2.2.2.2.1
theorem ev_dreturn {x : UInt64} (h : decode (ev_by μ) pc = .ok (.dreturn, 1)) (hr : ev_rt μ = some .double) (hq : Q (.inl (some (ev_d x))) S) : ev_E g μ d B pc L [ev_d x] S Q := by
  intro l p e R s m args below meth c H locs cells slots mc ms Λ ls X hL hz hK
  have X4 := X.rm
  have X5 := X.sx
  have X6 := X.lw
  obtain ⟨X1, X2, X3, hP, hS⟩ := X
  refine W.widen (k := mc) (n := ms) (by omega) (by omega) (vx_ret ?_)
  exact W.dret (Qc := ev_Qc g Λ Q) (v := x) X1.1 X1.2.1 (by rw [X1.2.2.1, hr]) (fun t ht hW => ⟨some (ev_d x), S, rfl, fun v hv => by cases hv; trivial, hq, by rw [ht]; exact hP, hS.F ht, X5, X6⟩) hS.2.2 h X1.2.2.2.2.2.1
/-- an exception of number k lies over the frame -/
def ev_T (g : ev_G) (μ : ev_M) (d B pc : Nat) (L : List (Option ev_V)) (S : ev_S) (k : Nat) (Q : ev_O → ev_S → Prop) : Prop :=
  ∀ (l : Launch) (p : Program) (e : Env) (R : Room) (s : State) (m : MethodId) (args : Array Value) (below : List Frame) (meth : Method) (c : Code) (H : Heap) (locs : List Loc) (cells slots mc ms : Nat) (Λ : ev_Y) (ls : Array Slot) (rest : List Value) (q : Addr) (ce : Cell),
    ev_X g μ d B S l p R s m args meth c H locs cells slots mc ms Λ → ev_L g S.2.1 L ls → ls.size = ev_ml μ → H[q]? = some ce → ce.vm = .none → s.vm.findClass (ev_ex k) = some ce.cls →
    vx_W p l e R s m args below meth c H locs cells slots (vx_MQ below (ev_Qc g Λ Q) (ev_XC g Λ Q) args s mc ms (ev_A g)) (F0 m pc ls rest) q
/-- no handler here -/
theorem ev_T_out {k : Nat} (hk : k < 4) (hh : ev_hh μ = []) (hq : Q (.inr k) S) : ev_T g μ d B pc L S k Q := by
  intro l p e R s m args below meth c H locs cells slots mc ms Λ ls rest q ce X hL hz hce hcv hcl
  have X4 := X.rm
  have X5 := X.sx
  have X6 := X.lw
  obtain ⟨X1, X2, X3, hP, hS⟩ := X
  exact vx_out (E := ev_ex k) (by rw [X1.2.2.2.2.2.2.1, hh]; intro x hx; cases hx) X1.2.2.2.2.2.1 hce hcv hcl (fun t ht ha => ⟨k, S, rfl, hk, hq, by rw [ht]; exact hP, hS.F ht, X5, X6⟩) hS.2.2 (by omega) (by omega)
/-- what follows a call -/
def ev_After (g : ev_G) (μ : ev_M) (d B pc : Nat) (L : List (Option ev_V)) (K : List ev_V) (S : ev_S) (Q : ev_O → ev_S → Prop) (o : ev_O) : Prop := match o with
  | .inl none => ev_E g μ d B (pc + 3) L K S Q
  | .inl (some v) => ev_E g μ d B (pc + 3) L (v :: K) S Q
  | .inr k => ev_T g μ d B pc L S k Q
end EvEnd
