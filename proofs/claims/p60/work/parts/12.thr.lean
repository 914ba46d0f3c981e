/-! ===== rows: throws ===== -/
def ev_nm : List String := ["java/lang/RuntimeException", "java/lang/Exception"]
section EvThr
variable {g : ev_G} {μ : ev_M} {d B pc : Nat} {L : List (Option ev_V)} {K : List ev_V} {S : ev_S} {Q : ev_O → ev_S → Prop}
theorem ev_throw (k ik is ic sk : Nat) (text : String) (hk4 : k < 4) (hB : 1 ≤ B) (hh : ev_hh μ = []) (hfit : Bundle.fit (ev_ex k) = true) (hk : Cond.classLink (ev_own μ) ik (ev_ex k) ∈ ev_gw) (hini : Cond.initialized (ev_ex k) ∈ ev_gw) (hst : (ev_own μ, (is, (text, sk))) ∈ ev_st)
    (hat : ∀ w ∈ vx_atS (ev_own μ) ic (ev_ex k) ev_nm, w ∈ ev_gw ∨ w ∈ ev_ow) (d0 : decode (ev_by μ) pc = .ok (.new ik, 3)) (d3 : decode (ev_by μ) (pc + 3) = .ok (.dup, 1)) (d4 : decode (ev_by μ) (pc + 4) = .ok (.ldc is, 2)) (d6 : decode (ev_by μ) (pc + 6) = .ok (.invokespecial ic, 3)) (d9 : decode (ev_by μ) (pc + 9) = .ok (.athrow, 1))
    (hcat : (K.map ev_w).sum ≤ 8) (hq : Q (.inr k) S) : ev_E g μ d B pc L K S Q := by
  intro l p e R s m args below meth c H locs cells slots mc ms Λ ls X hL hz hK
  have hfm := X.fm
  have X4 := X.rm
  have X5 := X.sx
  have X6 := X.lw
  obtain ⟨X1, X2, X3, hP, hS⟩ := X
  refine vx_throwS (text := text) (names := ev_nm) (ik := ik) (is := is) (ic := ic) (sa := ev_aK g sk) X1.1 X1.2.1 X1.2.2.2.2.2.2.2 X1.2.2.2.2.1 hfit (by decide) (X2.1 _ hk) (X2.1 _ hini) (X2.2.2.1.1.2.1 _ hst) (fun w hw => (hat w hw).elim (fun h9 => X2.1 _ h9) (fun h9 => va_Nw.use (ev_ow_tab (List.mem_filter.mp h9).2) (X2.2.2.1.1.2.2.2.1 _ h9))) (fun w hw => ?_) X2.2.2.1.2.1.1 X2.2.2.1.2.1.2 hS (hz.trans X1.2.2.2.1.symm) d0 d3 d4 d6 d9
    (by rw [X1.2.2.2.2.2.2.1, hh]; intro x hx; cases hx) ?_ ?_ ?_ ?_ X1.2.2.2.2.2.1 (fun t ha hsz hq9 => ⟨k, S, rfl, hk4, hq, ?_, ?_, X5, X6⟩) hS.2.2 ?_ ?_
  · have : w ∈ ev_gw ∨ w ∈ ev_ow := by
      rcases List.mem_cons.mp hw with rfl | hw
      · exact Or.inl hk
      · rcases List.mem_cons.mp hw with rfl | hw
        · exact Or.inl hini
        · exact hat w hw
    simp only [vx_ot, Bool.or_eq_true]
    exact this.elim (fun h9 => Or.inr (List.mem_filter.mp h9).2) (fun h9 => Or.inl (ev_ow_tab (List.mem_filter.mp h9).2))
  · show 2 + 3 < R.frames; omega
  · rw [ev_cats hfm]; show _ + (13 * (2 + 1) + 43) ≤ _; omega
  · omega
  · omega
  · intro i q h9
    exact (hP i q h9).kept (hq9 _ (hP i q h9).lt)
  · exact ⟨Nat.le_trans hS.1 hsz, fun q h1 h2 => by rw [hq9 q (Nat.lt_of_lt_of_le h1 hS.1)]; exact hS.2.1 q h1 h2⟩
  · omega
  · omega
theorem ev_throwW (k ik is ic sk : Nat) (text : String) (hk4 : k < 4) (hB : 1 ≤ B) (hh : ev_hh μ = []) (hfit : Bundle.fit (ev_ex k) = true) (hk : Cond.classLink (ev_own μ) ik (ev_ex k) ∈ ev_gw) (hini : Cond.initialized (ev_ex k) ∈ ev_gw) (hst : (ev_own μ, (is, (text, sk))) ∈ ev_st)
    (hat : ∀ w ∈ vx_atS (ev_own μ) ic (ev_ex k) ev_nm, w ∈ ev_gw ∨ w ∈ ev_ow) (d0 : decode (ev_by μ) pc = .ok (.new ik, 3)) (d3 : decode (ev_by μ) (pc + 3) = .ok (.dup, 1)) (d4 : decode (ev_by μ) (pc + 4) = .ok (.ldc_w is, 3)) (d6 : decode (ev_by μ) (pc + 7) = .ok (.invokespecial ic, 3)) (d9 : decode (ev_by μ) (pc + 10) = .ok (.athrow, 1))
    (hcat : (K.map ev_w).sum ≤ 8) (hq : Q (.inr k) S) : ev_E g μ d B pc L K S Q := by
  intro l p e R s m args below meth c H locs cells slots mc ms Λ ls X hL hz hK
  have hfm := X.fm
  have X4 := X.rm
  have X5 := X.sx
  have X6 := X.lw
  obtain ⟨X1, X2, X3, hP, hS⟩ := X
  refine vx_throwSW (text := text) (names := ev_nm) (ik := ik) (is := is) (ic := ic) (sa := ev_aK g sk) X1.1 X1.2.1 X1.2.2.2.2.2.2.2 X1.2.2.2.2.1 hfit (by decide) (X2.1 _ hk) (X2.1 _ hini) (X2.2.2.1.1.2.1 _ hst) (fun w hw => (hat w hw).elim (fun h9 => X2.1 _ h9) (fun h9 => va_Nw.use (ev_ow_tab (List.mem_filter.mp h9).2) (X2.2.2.1.1.2.2.2.1 _ h9))) (fun w hw => ?_) X2.2.2.1.2.1.1 X2.2.2.1.2.1.2 hS (hz.trans X1.2.2.2.1.symm) d0 d3 d4 d6 d9
    (by rw [X1.2.2.2.2.2.2.1, hh]; intro x hx; cases hx) ?_ ?_ ?_ ?_ X1.2.2.2.2.2.1 (fun t ha hsz hq9 => ⟨k, S, rfl, hk4, hq, ?_, ?_, X5, X6⟩) hS.2.2 ?_ ?_
  · have : w ∈ ev_gw ∨ w ∈ ev_ow := by
      rcases List.mem_cons.mp hw with rfl | hw
      · exact Or.inl hk
      · rcases List.mem_cons.mp hw with rfl | hw
        · exact Or.inl hini
        · exact hat w hw
    simp only [vx_ot, Bool.or_eq_true]
    exact this.elim (fun h9 => Or.inr (List.mem_filter.mp h9).2) (fun h9 => Or.inl (ev_ow_tab (List.mem_filter.mp h9).2))
  · show 2 + 3 < R.frames; omega
  · rw [ev_cats hfm]; show _ + (13 * (2 + 1) + 43) ≤ _; omega
  · omega
  · omega
  · intro i q h9
    exact (hP i q h9).kept (hq9 _ (hP i q h9).lt)
  · exact ⟨Nat.le_trans hS.1 hsz, fun q h1 h2 => by rw [hq9 q (Nat.lt_of_lt_of_le h1 hS.1)]; exact hS.2.1 q h1 h2⟩
  · omega
  · omega
end EvThr
