/-! ===== the start: what the tables and the premises give ===== -/
/-- the premises, one by one -/
def st_nw : List Cond := flatC (Jvm.Cond.and given_1 narrow_1)
def st_tm (i : Nat) : Term := Term.string (ev_st.getD i ("", (0, ("", 0)))).1 (ev_st.getD i ("", (0, ("", 0)))).2.1
def st_pos : List Nat := [67, 225, 233, 243, 251, 259, 267, 278, 288, 296, 304, 313, 323, 331, 341, 347, 352, 358, 365, 370, 420, 446, 472, 512, 540, 563, 590, 611, 770, 779, 790, 799, 809, 818, 830, 841, 850, 859]
theorem st_ex : ∀ i, i < 38 → st_nw[st_pos.getD i 0]? = some (Cond.exactly (st_tm i) "java/lang/String") := by decide +kernel
theorem st_co : ∀ i, i < 38 → st_nw[st_pos.getD i 0 + 1]? = some (Cond.eq (.field (st_tm i) "java/lang/String" "coder" "B") (.int 0)) := by decide +kernel
theorem st_ar : ∀ i, i < 38 → st_nw[st_pos.getD i 0 + 2]? = some (Cond.arrayOf (.field (st_tm i) "java/lang/String" "value" "[B") .byte) := by decide +kernel
theorem st_ln : ∀ i, i < 38 → st_nw[st_pos.getD i 0 + 3]? = some (Cond.eq (.length (.field (st_tm i) "java/lang/String" "value" "[B")) (.int (Int32.ofNat (ev_le.getD i 0)))) ∧ ev_le.getD i 0 < 2 ^ 31 := by decide +kernel
theorem st_el : ∀ i, i < 38 → ∀ j, j < ev_le.getD i 0 → st_nw[st_pos.getD i 0 + 4 + j]? = some (Cond.eq (.elem (.field (st_tm i) "java/lang/String" "value" "[B") (.int (Int32.ofNat j))) (.int ((ev_bt.getD i []).getD j 0))) := by decide +kernel
theorem st_of {args : Array Value} {s : State} {A : Nat → Prop} (hn : ∀ w ∈ st_nw, w.before args s = true) (hA : ∀ a : Nat, a < s.heap.size → ¬ A a) :
    ∃ adK adV : Nat → Nat, (∀ i : Nat, i < 38 → va_O "java/lang/String" (adK i) A s s.heap ∧ va_OF "java/lang/String" "coder" "B" (.int 0) (adK i) A s s.heap ∧ va_OF "java/lang/String" "value" "[B" (.ref (adV i)) (adK i) A s s.heap ∧ va_T .byte (adV i) (ev_le.getD i 0) (fun j => .int ((ev_bt.getD i []).getD j 0)) A s s.heap) ∧ ∀ i : Nat, i < 38 → (st_tm i).eval args s none [] s = some (.ref (adK i)) := by
  have h0 : ∀ i : Nat, ∃ q : Nat × Nat, i < 38 → (st_tm i).eval args s none [] s = some (.ref q.1) ∧ va_O "java/lang/String" q.1 A s s.heap ∧ va_OF "java/lang/String" "coder" "B" (.int 0) q.1 A s s.heap ∧ va_OF "java/lang/String" "value" "[B" (.ref q.2) q.1 A s s.heap ∧ va_T .byte q.2 (ev_le.getD i 0) (fun j => .int ((ev_bt.getD i []).getD j 0)) A s s.heap := by
    intro i
    by_cases hi : i < 38
    · obtain ⟨a, c, cA, kA, q1, q2, q3, q4, q5, q6, -⟩ := Cond.exactly_spec (args := args) (first := s) (o := none) (s := s) (idx := []) (t := st_tm i) (cls := "java/lang/String") (hn _ (List.mem_of_getElem? (st_ex i hi)))
      obtain ⟨t, ht, hT⟩ := va_Tof (f := fun j => .int ((ev_bt.getD i []).getD j 0)) (A := A) (st_ln i hi).2 (hn _ (List.mem_of_getElem? (st_ar i hi))) (va_eqt (hn _ (List.mem_of_getElem? (st_ln i hi).1))) (fun j hj => va_eqt (hn _ (List.mem_of_getElem? (st_el i hi j hj)))) hA
      exact ⟨(a, t), fun _ => ⟨q1, ⟨cA, q3, q5, by rw [q6]; exact q2, hA a (Array.getElem?_eq_some_iff.mp q3).1⟩, vk_OFof q1 (va_eqt (hn _ (List.mem_of_getElem? (st_co i hi)))) hA, vk_OFof q1 ht hA, hT⟩⟩
    · exact ⟨(0, 0), fun h => absurd h hi⟩
  obtain ⟨ad, had⟩ := Classical.axiomOfChoice h0
  exact ⟨fun i => (ad i).1, fun i => (ad i).2, fun i hi => (had i hi).2, fun i hi => (had i hi).1⟩
/-! the tables' words, by their places -/
def st_wi : List Nat := [424, 515, 568, 611, 635, 777, 779, 780, 781, 782, 783, 784, 790, 791, 792, 793, 794, 795, 796, 1275, 1322, 1355, 1443, 1632, 1633, 1721, 1747, 1754, 1789, 1818, 1843, 1852, 1991, 1992, 1993, 1994, 1995, 1996]
def ne_wi : List Nat := [144, 179, 210, 223, 235, 303, 309, 385, 413, 477, 492, 593, 610, 628, 648, 665, 672, 681, 682, 767, 768, 851, 881, 902, 913, 916, 923, 928, 933, 934, 1015, 1080, 1209, 1686, 1704, 1713]
def nc_wi : List Nat := [23, 37, 66, 50, 36, 64, 51, 22, 65, 52, 24, 38]
theorem st_num : ∀ i, i < 38 → (ev_st[i]?).map (fun q => q.2.2.2) = some i := by decide +kernel
theorem st_word : ∀ i, i < 38 → lw_tbl[st_wi.getD i 0]? = (ev_st[i]?).map (fun q => Cond.stringRef q.1 q.2.1 q.2.2.1) := by decide +kernel
theorem ne_word : ∀ i, i < 36 → lw_tbl[ne_wi.getD i 0]? = (ev_ne[i]?).map (fun q => Cond.methodLinkNest q.1 q.2.1 q.2.2.1 q.2.2.2) := by decide +kernel
theorem nc_word : ∀ i, i < 12 → st_nw[nc_wi.getD i 0]? = (ev_nc[i]?).map (fun q => Cond.not (.castable (ev_ex q.1) (ev_ex q.2))) := by decide +kernel
theorem st_cs : Cond.eq (.static "java/lang/String" "COMPACT_STRINGS" "Z") (.int 1) ∈ st_nw := List.mem_of_getElem? (i := 4) (by decide +kernel)
theorem st_si : Cond.isRef (.static "jdk/internal/util/Preconditions" "SIOOBE_FORMATTER" "Ljava/util/function/BiFunction;") ∈ st_nw := List.mem_of_getElem? (i := 5) (by decide +kernel)
theorem st_us : Cond.isRef (.static Bundle.tN "UNASSIGNED_STACK" Bundle.steD) ∈ st_nw := List.mem_of_getElem? (i := 9) (by decide +kernel)
theorem st_ss : Cond.isRef (.static Bundle.tN "SUPPRESSED_SENTINEL" Bundle.listD) ∈ st_nw := List.mem_of_getElem? (i := 10) (by decide +kernel)
theorem sl_cs : Cond.laysStatic "java/lang/String" "COMPACT_STRINGS" "Z" ∈ lw_tbl := List.mem_of_getElem? (i := 434) (by decide +kernel)
theorem sl_si : Cond.laysStatic "jdk/internal/util/Preconditions" "SIOOBE_FORMATTER" "Ljava/util/function/BiFunction;" ∈ lw_tbl := List.mem_of_getElem? (i := 450) (by decide +kernel)
theorem sl_us : Cond.laysStatic Bundle.tN "UNASSIGNED_STACK" Bundle.steD ∈ lw_tbl := List.mem_of_getElem? (i := 1260) (by decide +kernel)
theorem sl_ss : Cond.laysStatic Bundle.tN "SUPPRESSED_SENTINEL" Bundle.listD ∈ lw_tbl := List.mem_of_getElem? (i := 1262) (by decide +kernel)
theorem si_t : Cond.initialized Bundle.tN ∈ lw_tbl := List.mem_of_getElem? (i := 127) (by decide +kernel)
theorem si_s : Cond.initialized "java/lang/String" ∈ lw_tbl := List.mem_of_getElem? (i := 119) (by decide +kernel)
theorem si_p : Cond.initialized "jdk/internal/util/Preconditions" ∈ lw_tbl := List.mem_of_getElem? (i := 121) (by decide +kernel)
theorem sa_g : Cond.arrayOver (.object "MulePostBishops$Game") ∈ lw_tbl := List.mem_of_getElem? (i := 412) (by decide +kernel)
theorem sa_i : Cond.arrayClass .int ∈ lw_tbl := List.mem_of_getElem? (i := 176) (by decide +kernel)
theorem sa_z : Cond.arrayClass .boolean ∈ lw_tbl := List.mem_of_getElem? (i := 1938) (by decide +kernel)
theorem sa_j : Cond.arrayClass .long ∈ lw_tbl := List.mem_of_getElem? (i := 2437) (by decide +kernel)
theorem sa_d : Cond.arrayClass .double ∈ lw_tbl := List.mem_of_getElem? (i := 2438) (by decide +kernel)
theorem ki_135 : Cond.instantiable "MulePostBishops" 12 ∈ ev_gw := ev_gi (List.mem_of_getElem? (i := 135) (by decide +kernel)) (by decide +kernel)
theorem ki_143 : Cond.instantiable "MulePostBishops$Text" 9 ∈ ev_gw := ev_gi (List.mem_of_getElem? (i := 143) (by decide +kernel)) (by decide +kernel)
theorem ki_178 : Cond.instantiable "MulePostBishops$Script" 8 ∈ ev_gw := ev_gi (List.mem_of_getElem? (i := 178) (by decide +kernel)) (by decide +kernel)
theorem ki_209 : Cond.instantiable "MulePostBishops$Output" 2 ∈ ev_gw := ev_gi (List.mem_of_getElem? (i := 209) (by decide +kernel)) (by decide +kernel)
theorem ki_228 : Cond.instantiable "MulePostBishops$Desk" 11 ∈ ev_gw := ev_gi (List.mem_of_getElem? (i := 228) (by decide +kernel)) (by decide +kernel)
theorem ki_234 : Cond.instantiable "MulePostBishops$Board" 9 ∈ ev_gw := ev_gi (List.mem_of_getElem? (i := 234) (by decide +kernel)) (by decide +kernel)
theorem ki_302 : Cond.instantiable "MulePostBishops$Post" 18 ∈ ev_gw := ev_gi (List.mem_of_getElem? (i := 302) (by decide +kernel)) (by decide +kernel)
theorem ki_308 : Cond.instantiable "MulePostBishops$Passes" 5 ∈ ev_gw := ev_gi (List.mem_of_getElem? (i := 308) (by decide +kernel)) (by decide +kernel)
theorem ki_406 : Cond.instantiable "MulePostBishops$History" 3 ∈ ev_gw := ev_gi (List.mem_of_getElem? (i := 406) (by decide +kernel)) (by decide +kernel)
theorem ki_1749 : Cond.instantiable "MulePostBishopsModel" 28 ∈ ev_gw := ev_gi (List.mem_of_getElem? (i := 1749) (by decide +kernel)) (by decide +kernel)
theorem st_cls {args : Array Value} {s : State} (htw : ∀ w ∈ ev_gw, w.before args s = true) : ∃ D : va_G, ∀ (k : Nat) (q : vw_C), ev_cl[k]? = some q → u_Kn s q.1 q.2.1 q.2.2 (D.1 k) (D.2 k) := by
  have h0 : ∀ k : Nat, ∃ x : ClassId × (Nat → Nat), ∀ q : vw_C, ev_cl[k]? = some q → u_Kn s q.1 q.2.1 q.2.2 x.1 x.2 := by
    intro k
    match k with
    | 0 => obtain ⟨c, i, h⟩ := u_known htw in_0 (htw _ ki_234); exact ⟨(c, i), fun q hq => by cases hq; exact h⟩
    | 1 => obtain ⟨c, i, h⟩ := u_known htw in_1 (htw _ ki_228); exact ⟨(c, i), fun q hq => by cases hq; exact h⟩
    | 2 => obtain ⟨c, i, h⟩ := u_known htw in_2 (htw _ kh_222); exact ⟨(c, i), fun q hq => by cases hq; exact h⟩
    | 3 => obtain ⟨c, i, h⟩ := u_known htw in_3 (htw _ ki_406); exact ⟨(c, i), fun q hq => by cases hq; exact h⟩
    | 4 => obtain ⟨c, i, h⟩ := u_known htw in_4 (htw _ ki_209); exact ⟨(c, i), fun q hq => by cases hq; exact h⟩
    | 5 => obtain ⟨c, i, h⟩ := u_known htw in_5 (htw _ ki_308); exact ⟨(c, i), fun q hq => by cases hq; exact h⟩
    | 6 => obtain ⟨c, i, h⟩ := u_known htw in_6 (htw _ ki_302); exact ⟨(c, i), fun q hq => by cases hq; exact h⟩
    | 7 => obtain ⟨c, i, h⟩ := u_known htw in_7 (htw _ ki_178); exact ⟨(c, i), fun q hq => by cases hq; exact h⟩
    | 8 => obtain ⟨c, i, h⟩ := u_known htw in_8 (htw _ ki_143); exact ⟨(c, i), fun q hq => by cases hq; exact h⟩
    | 9 => obtain ⟨c, i, h⟩ := u_known htw in_9 (htw _ ki_135); exact ⟨(c, i), fun q hq => by cases hq; exact h⟩
    | 10 => obtain ⟨c, i, h⟩ := u_known htw in_10 (htw _ ki_1749); exact ⟨(c, i), fun q hq => by cases hq; exact h⟩
    | k + 11 => exact ⟨(0, fun _ => 0), fun q hq => by simp [ev_cl] at hq⟩
  obtain ⟨f, hf⟩ := Classical.axiomOfChoice h0
  exact ⟨(fun k => (f k).1, fun k => (f k).2), hf⟩
theorem st_arr {args : Array Value} {s : State} {ty : FieldType} (h : (Cond.arrayClass ty).before args s = true) (hra : ∀ cA, s.vm.findClass ("[" ++ ty.toString) = some cA → va_RA s cA ty) : ∃ cA : ClassId, ArrOfT s cA ty ∧ va_RA s cA ty := by
  obtain ⟨cA, kA, comp, h1, h2, h3⟩ := Cond.arrayClass_spec h
  exact ⟨cA, fun n z => ⟨fun k h => (by cases h), kA, h2, comp, h3⟩, hra cA h1⟩
theorem st_arrG {args : Array Value} {s : State} {C : String} (h : (Cond.arrayOver (.object C)).before args s = true) : ∃ cA : ClassId, ArrOfT s cA (.object C) ∧ va_RA s cA (.object C) := by
  obtain ⟨comp, cA, kA, h1, -, h2, h3, h4⟩ := Cond.arrayOver_spec h
  exact ⟨cA, fun n z => ⟨fun k h => (by cases h), kA, h2, comp, h3⟩, kA, comp, h2, h3, h1, h4⟩
theorem law_world {s : State} {b L : Nat} {xs : Nat → Int32} (hts : ∀ w ∈ lw_tbl, w.before #[Value.ref b] s = true) (hX : va_X b L xs s s.heap) (hbl : b < s.heap.size) (hgv : (Jvm.Cond.and given_1 narrow_1).before #[Value.ref b] s = true) :
    ∃ g : ev_G, s.heap.size = ev_b g ∧ ev_sb g = b ∧ ev_sl g = L ∧ ct_J g s s.heap := by
  have hn : ∀ w ∈ st_nw, w.before #[Value.ref b] s = true := flat_of_before _ hgv
  have htw : ∀ w ∈ ev_gw, w.before #[Value.ref b] s = true := fun w hw => hts w (List.mem_filter.mp hw).1
  have hA : ∀ a : Nat, a < s.heap.size → ¬ (fun q : Nat => s.heap.size ≤ q) a := fun a h => Nat.not_le.mpr h
  obtain ⟨D, hD⟩ := st_cls htw
  obtain ⟨cI, aI, rI⟩ := st_arr (hts _ sa_i) (fun cA h => h)
  obtain ⟨cZ, aZ, rZ⟩ := st_arr (hts _ sa_z) (fun cA h => h)
  obtain ⟨cJ, aJ, rJ⟩ := st_arr (hts _ sa_j) (fun cA h => h)
  obtain ⟨cD, aD, rD⟩ := st_arr (hts _ sa_d) (fun cA h => h)
  obtain ⟨cG, aG, rG⟩ := st_arrG (hts _ sa_g)
  obtain ⟨adK, adV, hS, hE⟩ := st_of hn hA
  obtain ⟨fm, hfm, hf1⟩ : ∃ fm : Value, va_Z "jdk/internal/util/Preconditions" "SIOOBE_FORMATTER" "Ljava/util/function/BiFunction;" fm (fun q : Nat => s.heap.size ≤ q) s s.heap ∧ fm.category = 1 := by
    rcases va_Zqof (hts _ sl_si) (hts _ si_p) (hn _ st_si) hA with h | ⟨t, h⟩
    · exact ⟨.null, h, rfl⟩
    · exact ⟨.ref t, h, rfl⟩
  refine ⟨((s.heap.size, 518), (D, ((cI, (cZ, (cJ, (cD, cG)))), ((adK, adV), (fm, (b, (L, xs))))))), rfl, rfl, rfl, ⟨hD, fun k q hq => ?_⟩, ⟨⟨fun q hq => ?_, fun q hq => ?_, fun q hq => ?_, fun w hw => va_Nw.of (ev_ow_tab (List.mem_filter.mp hw).2) (hts _ (List.mem_filter.mp hw).1)⟩, ⟨?_, ?_⟩, ?_, hfm, hS, hX, hA b hbl, hf1⟩, va_AO.of (hts _ sa_g)⟩
  · match k, hq with
    | 0, hq => cases hq; exact ⟨aI, rI⟩
    | 1, hq => cases hq; exact ⟨aZ, rZ⟩
    | 2, hq => cases hq; exact ⟨aJ, rJ⟩
    | 3, hq => cases hq; exact ⟨aD, rD⟩
    | 4, hq => cases hq; exact ⟨aG, rG⟩
    | k + 5, hq => simp [ev_ty] at hq
  · obtain ⟨i, hi⟩ := List.getElem?_of_mem hq
    have hl : i < 36 := (List.getElem?_eq_some_iff.mp hi).1
    have h1 := ne_word i hl
    rw [hi] at h1
    exact va_Nw.of rfl (hts _ (List.mem_of_getElem? h1))
  · obtain ⟨i, hi⟩ := List.getElem?_of_mem hq
    have hl : i < 38 := (List.getElem?_eq_some_iff.mp hi).1
    have h1 := st_word i hl
    have h2 := st_num i hl
    rw [hi] at h1 h2
    have h2 : q.2.2.2 = i := Option.some.inj h2
    have h3 := hE i hl
    have h4 : st_tm i = Term.string q.1 q.2.1 := by
      unfold st_tm
      rw [List.getD_eq_getElem?_getD, hi]
      rfl
    rw [h4] at h3
    show vk_R q.1 q.2.1 q.2.2.1 (adK q.2.2.2) s
    rw [h2]
    exact vk_R.of (hts _ (List.mem_of_getElem? h1)) h3
  · obtain ⟨i, hi⟩ := List.getElem?_of_mem hq
    have hl : i < 12 := (List.getElem?_eq_some_iff.mp hi).1
    have h1 := nc_word i hl
    rw [hi] at h1
    exact va_Nc.of (hn _ (List.mem_of_getElem? h1))
  · exact vx_Zqof (hts _ sl_us) (hts _ si_t) (hn _ st_us) hA
  · exact vx_Zqof (hts _ sl_ss) (hts _ si_t) (hn _ st_ss) hA
  · exact va_Zof (hts _ sl_cs) (hts _ si_s) (va_eqi (hn _ st_cs)) hA
