/-! ===== the start: what the tables and the premises give ===== -/
/-- the premises, one by one -/
def st_nw : List Cond := flatC (Jvm.Cond.and given_1 narrow_1)
def st_tm (i : Nat) : Term := Term.string (ev_st.getD i ("", (0, ("", 0)))).1 (ev_st.getD i ("", (0, ("", 0)))).2.1
def st_pos : List Nat := [271, 429, 438, 450, 461, 473, 505, 537, 584, 620, 652, 671, 693, 714, 736]
theorem st_ex : ∀ i, i < 15 → st_nw[st_pos.getD i 0]? = some (Cond.exactly (st_tm i) "java/lang/String") := by decide +kernel
theorem st_co : ∀ i, i < 15 → st_nw[st_pos.getD i 0 + 1]? = some (Cond.eq (.field (st_tm i) "java/lang/String" "coder" "B") (.int 0)) := by decide +kernel
theorem st_ar : ∀ i, i < 15 → st_nw[st_pos.getD i 0 + 2]? = some (Cond.arrayOf (.field (st_tm i) "java/lang/String" "value" "[B") .byte) := by decide +kernel
theorem st_ln : ∀ i, i < 15 → st_nw[st_pos.getD i 0 + 3]? = some (Cond.eq (.length (.field (st_tm i) "java/lang/String" "value" "[B")) (.int (Int32.ofNat (ev_le.getD i 0)))) ∧ ev_le.getD i 0 < 2 ^ 31 := by decide +kernel
theorem st_el : ∀ i, i < 15 → ∀ j, j < ev_le.getD i 0 → st_nw[st_pos.getD i 0 + 4 + j]? = some (Cond.eq (.elem (.field (st_tm i) "java/lang/String" "value" "[B") (.int (Int32.ofNat j))) (.int ((ev_bt.getD i []).getD j 0))) := by decide +kernel
theorem st_of {args : Array Value} {s : State} {A : Nat → Prop} (hn : ∀ w ∈ st_nw, w.before args s = true) (hA : ∀ a : Nat, a < s.heap.size → ¬ A a) :
    ∃ adK adV : Nat → Nat, (∀ i : Nat, i < 15 → va_O "java/lang/String" (adK i) A s s.heap ∧ va_OF "java/lang/String" "coder" "B" (.int 0) (adK i) A s s.heap ∧ va_OF "java/lang/String" "value" "[B" (.ref (adV i)) (adK i) A s s.heap ∧ va_T .byte (adV i) (ev_le.getD i 0) (fun j => .int ((ev_bt.getD i []).getD j 0)) A s s.heap) ∧ ∀ i : Nat, i < 15 → (st_tm i).eval args s none [] s = some (.ref (adK i)) := by
  have h0 : ∀ i : Nat, ∃ q : Nat × Nat, i < 15 → (st_tm i).eval args s none [] s = some (.ref q.1) ∧ va_O "java/lang/String" q.1 A s s.heap ∧ va_OF "java/lang/String" "coder" "B" (.int 0) q.1 A s s.heap ∧ va_OF "java/lang/String" "value" "[B" (.ref q.2) q.1 A s s.heap ∧ va_T .byte q.2 (ev_le.getD i 0) (fun j => .int ((ev_bt.getD i []).getD j 0)) A s s.heap := by
    intro i
    by_cases hi : i < 15
    · obtain ⟨a, c, cA, kA, q1, q2, q3, q4, q5, q6, -⟩ := Cond.exactly_spec (args := args) (first := s) (o := none) (s := s) (idx := []) (t := st_tm i) (cls := "java/lang/String") (hn _ (List.mem_of_getElem? (st_ex i hi)))
      obtain ⟨t, ht, hT⟩ := va_Tof (f := fun j => .int ((ev_bt.getD i []).getD j 0)) (A := A) (st_ln i hi).2 (hn _ (List.mem_of_getElem? (st_ar i hi))) (va_eqt (hn _ (List.mem_of_getElem? (st_ln i hi).1))) (fun j hj => va_eqt (hn _ (List.mem_of_getElem? (st_el i hi j hj)))) hA
      exact ⟨(a, t), fun _ => ⟨q1, ⟨cA, q3, q5, by rw [q6]; exact q2, hA a (Array.getElem?_eq_some_iff.mp q3).1⟩, vk_OFof q1 (va_eqt (hn _ (List.mem_of_getElem? (st_co i hi)))) hA, vk_OFof q1 ht hA, hT⟩⟩
    · exact ⟨(0, 0), fun h => absurd h hi⟩
  obtain ⟨ad, had⟩ := Classical.axiomOfChoice h0
  exact ⟨fun i => (ad i).1, fun i => (ad i).2, fun i hi => (had i hi).2, fun i hi => (had i hi).1⟩
/-! the tables' words, by their places -/
def st_wi : List Nat := [335, 426, 479, 522, 546, 690, 978, 1006, 1549, 1559, 1662, 1830, 1832, 1833, 1910]
def ne_wi : List Nat := [59, 94, 122, 134, 146, 214, 220, 296, 324, 388, 403, 504, 521, 539, 559, 576, 583, 592, 593, 727, 734, 1071, 1108, 1407, 1412, 1452, 1457, 1468, 1469, 1536, 1575, 1587, 1643]
def fe_wi : List Nat := [739, 740, 742, 743, 745, 746, 748, 749, 751, 753, 755, 756, 758, 760, 761, 763, 764, 766, 767, 769, 770, 798, 800, 802, 804, 806, 808, 811, 813, 815, 817, 819, 821, 823, 825, 827, 830, 832, 834, 836, 842, 844, 847, 849, 851, 853, 856]
theorem st_num : ∀ i, i < 15 → (ev_st[i]?).map (fun q => q.2.2.2) = some i := by decide +kernel
theorem st_word : ∀ i, i < 15 → lw_tbl[st_wi.getD i 0]? = (ev_st[i]?).map (fun q => Cond.stringRef q.1 q.2.1 q.2.2.1) := by decide +kernel
theorem ne_word : ∀ i, i < 33 → lw_tbl[ne_wi.getD i 0]? = (ev_ne[i]?).map (fun q => Cond.methodLinkNest q.1 q.2.1 q.2.2.1 q.2.2.2) := by decide +kernel
theorem fe_word : ∀ i, i < 47 → lw_tbl[fe_wi.getD i 0]? = (ev_fe[i]?).map (fun q => Cond.fieldLinkNest q.1 q.2.1 q.2.2.1 q.2.2.2.1 q.2.2.2.2.1 q.2.2.2.2.2) := by decide +kernel
theorem st_cs : Cond.eq (.static "java/lang/String" "COMPACT_STRINGS" "Z") (.int 1) ∈ st_nw := List.mem_of_getElem? (i := 4) (by decide +kernel)
theorem st_si : Cond.isRef (.static "jdk/internal/util/Preconditions" "SIOOBE_FORMATTER" "Ljava/util/function/BiFunction;") ∈ st_nw := List.mem_of_getElem? (i := 5) (by decide +kernel)
theorem st_us : Cond.isRef (.static Bundle.tN "UNASSIGNED_STACK" Bundle.steD) ∈ st_nw := List.mem_of_getElem? (i := 9) (by decide +kernel)
theorem st_ss : Cond.isRef (.static Bundle.tN "SUPPRESSED_SENTINEL" Bundle.listD) ∈ st_nw := List.mem_of_getElem? (i := 10) (by decide +kernel)
theorem sl_cs : Cond.laysStatic "java/lang/String" "COMPACT_STRINGS" "Z" ∈ lw_tbl := List.mem_of_getElem? (i := 345) (by decide +kernel)
theorem sl_si : Cond.laysStatic "jdk/internal/util/Preconditions" "SIOOBE_FORMATTER" "Ljava/util/function/BiFunction;" ∈ lw_tbl := List.mem_of_getElem? (i := 361) (by decide +kernel)
theorem sl_us : Cond.laysStatic Bundle.tN "UNASSIGNED_STACK" Bundle.steD ∈ lw_tbl := List.mem_of_getElem? (i := 675) (by decide +kernel)
theorem sl_ss : Cond.laysStatic Bundle.tN "SUPPRESSED_SENTINEL" Bundle.listD ∈ lw_tbl := List.mem_of_getElem? (i := 677) (by decide +kernel)
theorem si_t : Cond.initialized Bundle.tN ∈ lw_tbl := List.mem_of_getElem? (i := 41) (by decide +kernel)
theorem si_s : Cond.initialized "java/lang/String" ∈ lw_tbl := List.mem_of_getElem? (i := 27) (by decide +kernel)
theorem si_p : Cond.initialized "jdk/internal/util/Preconditions" ∈ lw_tbl := List.mem_of_getElem? (i := 29) (by decide +kernel)
theorem sa_g : Cond.arrayOver (.object "MulePostBishops$Game") ∈ lw_tbl := List.mem_of_getElem? (i := 323) (by decide +kernel)
theorem sa_i : Cond.arrayClass .int ∈ lw_tbl := List.mem_of_getElem? (i := 91) (by decide +kernel)
theorem sa_z : Cond.arrayClass .boolean ∈ lw_tbl := List.mem_of_getElem? (i := 796) (by decide +kernel)
theorem sa_b : Cond.arrayClass .byte ∈ lw_tbl := List.mem_of_getElem? (i := 635) (by decide +kernel)
theorem sa_o : Cond.arrayOver (.object "MulePostBishopsLaw$Own") ∈ lw_tbl := List.mem_of_getElem? (i := 1940) (by decide +kernel)
theorem sa_h : Cond.arrayOver (.object "MulePostBishopsLaw$Board") ∈ lw_tbl := List.mem_of_getElem? (i := 732) (by decide +kernel)
theorem sl_d1 : Cond.laysStatic "java/lang/Integer" "DigitOnes" "[B" ∈ lw_tbl := List.mem_of_getElem? (i := 1806) (by decide +kernel)
theorem sl_d2 : Cond.laysStatic "java/lang/Integer" "DigitTens" "[B" ∈ lw_tbl := List.mem_of_getElem? (i := 1808) (by decide +kernel)
theorem si_n : Cond.initialized "java/lang/Integer" ∈ lw_tbl := List.mem_of_getElem? (i := 40) (by decide +kernel)
theorem d1_ar : Cond.arrayOf (.static "java/lang/Integer" "DigitOnes" "[B") .byte ∈ st_nw := List.mem_of_getElem? (i := 12) (by decide +kernel)
theorem d2_ar : Cond.arrayOf (.static "java/lang/Integer" "DigitTens" "[B") .byte ∈ st_nw := List.mem_of_getElem? (i := 115) (by decide +kernel)
theorem d1_ln : Cond.eq (.length (.static "java/lang/Integer" "DigitOnes" "[B")) (.int (Int32.ofNat 100)) ∈ st_nw := List.mem_of_getElem? (i := 13) (by decide +kernel)
theorem d2_ln : Cond.eq (.length (.static "java/lang/Integer" "DigitTens" "[B")) (.int (Int32.ofNat 100)) ∈ st_nw := List.mem_of_getElem? (i := 116) (by decide +kernel)
theorem d1_el : ∀ j, j < 100 → st_nw[14 + j]? = some (Cond.eq (.elem (.static "java/lang/Integer" "DigitOnes" "[B") (.int (Int32.ofNat j))) (.int (ev_g1 j))) := by decide +kernel
theorem d2_el : ∀ j, j < 100 → st_nw[117 + j]? = some (Cond.eq (.elem (.static "java/lang/Integer" "DigitTens" "[B") (.int (Int32.ofNat j))) (.int (ev_g2 j))) := by decide +kernel
theorem sk_0 : Cond.instantiable "MulePostBishops$Board" 9 ∈ ev_gw := ev_gi (List.mem_of_getElem? (i := 145) (by decide +kernel)) (by decide +kernel)
theorem sk_1 : Cond.instantiable "MulePostBishops$Desk" 11 ∈ ev_gw := ev_gi (List.mem_of_getElem? (i := 139) (by decide +kernel)) (by decide +kernel)
theorem sk_2 : Cond.instantiable "MulePostBishops$Game" 6 ∈ ev_gw := ev_gi (List.mem_of_getElem? (i := 133) (by decide +kernel)) (by decide +kernel)
theorem sk_3 : Cond.instantiable "MulePostBishops$History" 3 ∈ ev_gw := ev_gi (List.mem_of_getElem? (i := 317) (by decide +kernel)) (by decide +kernel)
theorem sk_4 : Cond.instantiable "MulePostBishops$Output" 2 ∈ ev_gw := ev_gi (List.mem_of_getElem? (i := 121) (by decide +kernel)) (by decide +kernel)
theorem sk_5 : Cond.instantiable "MulePostBishops$Passes" 5 ∈ ev_gw := ev_gi (List.mem_of_getElem? (i := 219) (by decide +kernel)) (by decide +kernel)
theorem sk_6 : Cond.instantiable "MulePostBishops$Post" 18 ∈ ev_gw := ev_gi (List.mem_of_getElem? (i := 213) (by decide +kernel)) (by decide +kernel)
theorem sk_7 : Cond.instantiable "MulePostBishops$Script" 8 ∈ ev_gw := ev_gi (List.mem_of_getElem? (i := 93) (by decide +kernel)) (by decide +kernel)
theorem sk_8 : Cond.instantiable "MulePostBishops$Text" 9 ∈ ev_gw := ev_gi (List.mem_of_getElem? (i := 58) (by decide +kernel)) (by decide +kernel)
theorem sk_9 : Cond.instantiable "MulePostBishops" 12 ∈ ev_gw := ev_gi (List.mem_of_getElem? (i := 50) (by decide +kernel)) (by decide +kernel)
theorem sk_10 : Cond.instantiable "MulePostBishopsLaw$Board" 12 ∈ ev_gw := ev_gi (List.mem_of_getElem? (i := 733) (by decide +kernel)) (by decide +kernel)
theorem sk_11 : Cond.instantiable "MulePostBishopsLaw$Own" 34 ∈ ev_gw := ev_gi (List.mem_of_getElem? (i := 726) (by decide +kernel)) (by decide +kernel)
theorem sk_12 : Cond.instantiable "java/lang/StringBuilder" 4 ∈ ev_gw := ev_gi (List.mem_of_getElem? (i := 1661) (by decide +kernel)) (by decide +kernel)
theorem sk_13 : Cond.instantiable "java/lang/String" 4 ∈ ev_gw := ev_gi (List.mem_of_getElem? (i := 1839) (by decide +kernel)) (by decide +kernel)
theorem st_cls {args : Array Value} {s : State} (htw : ∀ w ∈ ev_gw, w.before args s = true) : ∃ D : va_G, ∀ (k : Nat) (q : vw_C), ev_cl[k]? = some q → u_Kn s q.1 q.2.1 q.2.2 (D.1 k) (D.2 k) := by
  have h0 : ∀ k : Nat, ∃ x : ClassId × (Nat → Nat), ∀ q : vw_C, ev_cl[k]? = some q → u_Kn s q.1 q.2.1 q.2.2 x.1 x.2 := by
    intro k
    match k with
    | 0 => obtain ⟨c, i, h⟩ := u_known htw in_0 (htw _ sk_0); exact ⟨(c, i), fun q hq => by cases hq; exact h⟩
    | 1 => obtain ⟨c, i, h⟩ := u_known htw in_1 (htw _ sk_1); exact ⟨(c, i), fun q hq => by cases hq; exact h⟩
    | 2 => obtain ⟨c, i, h⟩ := u_known htw in_2 (htw _ sk_2); exact ⟨(c, i), fun q hq => by cases hq; exact h⟩
    | 3 => obtain ⟨c, i, h⟩ := u_known htw in_3 (htw _ sk_3); exact ⟨(c, i), fun q hq => by cases hq; exact h⟩
    | 4 => obtain ⟨c, i, h⟩ := u_known htw in_4 (htw _ sk_4); exact ⟨(c, i), fun q hq => by cases hq; exact h⟩
    | 5 => obtain ⟨c, i, h⟩ := u_known htw in_5 (htw _ sk_5); exact ⟨(c, i), fun q hq => by cases hq; exact h⟩
    | 6 => obtain ⟨c, i, h⟩ := u_known htw in_6 (htw _ sk_6); exact ⟨(c, i), fun q hq => by cases hq; exact h⟩
    | 7 => obtain ⟨c, i, h⟩ := u_known htw in_7 (htw _ sk_7); exact ⟨(c, i), fun q hq => by cases hq; exact h⟩
    | 8 => obtain ⟨c, i, h⟩ := u_known htw in_8 (htw _ sk_8); exact ⟨(c, i), fun q hq => by cases hq; exact h⟩
    | 9 => obtain ⟨c, i, h⟩ := u_known htw in_9 (htw _ sk_9); exact ⟨(c, i), fun q hq => by cases hq; exact h⟩
    | 10 => obtain ⟨c, i, h⟩ := u_known htw in_10 (htw _ sk_10); exact ⟨(c, i), fun q hq => by cases hq; exact h⟩
    | 11 => obtain ⟨c, i, h⟩ := u_known htw in_11 (htw _ sk_11); exact ⟨(c, i), fun q hq => by cases hq; exact h⟩
    | 12 => obtain ⟨c, i, h⟩ := u_known htw in_12 (htw _ sk_12); exact ⟨(c, i), fun q hq => by cases hq; exact h⟩
    | 13 => obtain ⟨c, i, h⟩ := u_known htw in_13 (htw _ sk_13); exact ⟨(c, i), fun q hq => by cases hq; exact h⟩
    | k + 14 => exact ⟨(0, fun _ => 0), fun q hq => by simp [ev_cl] at hq⟩
  obtain ⟨f, hf⟩ := Classical.axiomOfChoice h0
  exact ⟨(fun k => (f k).1, fun k => (f k).2), hf⟩
theorem st_arr {args : Array Value} {s : State} {ty : FieldType} (h : (Cond.arrayClass ty).before args s = true) (hra : ∀ cA, s.vm.findClass ("[" ++ ty.toString) = some cA → va_RA s cA ty) : ∃ cA : ClassId, ArrOfT s cA ty ∧ va_RA s cA ty := by
  obtain ⟨cA, kA, comp, h1, h2, h3⟩ := Cond.arrayClass_spec h
  exact ⟨cA, fun n z => ⟨fun k h => (by cases h), kA, h2, comp, h3⟩, hra cA h1⟩
theorem st_arrG {args : Array Value} {s : State} {C : String} (h : (Cond.arrayOver (.object C)).before args s = true) : ∃ cA : ClassId, ArrOfT s cA (.object C) ∧ va_RA s cA (.object C) := by
  obtain ⟨comp, cA, kA, h1, -, h2, h3, h4⟩ := Cond.arrayOver_spec h
  exact ⟨cA, fun n z => ⟨fun k h => (by cases h), kA, h2, comp, h3⟩, kA, comp, h2, h3, h1, h4⟩
theorem law_world {s : State} {b L : Nat} {xs : Nat → Int32} (hts : ∀ w ∈ lw_tbl, w.before #[Value.ref b] s = true) (hX : va_X b L xs s s.heap) (hbl : b < s.heap.size) (hgv : (Jvm.Cond.and given_1 narrow_1).before #[Value.ref b] s = true) :
    ∃ g : ev_G, s.heap.size = ev_b g ∧ ev_sb g = b ∧ ev_sl g = L ∧ ct_J g s s.heap := by
  have hn : ∀ w ∈ st_nw, w.before #[Value.ref b] s = true := flat_of_before _ hgv
  have htw : ∀ w ∈ ev_gw, w.before #[Value.ref b] s = true := fun w hw => hts w (List.mem_filter.mp hw).1
  have hA : ∀ a : Nat, a < s.heap.size → ¬ (fun q : Nat => s.heap.size ≤ q) a := fun a h => Nat.not_le.mpr h
  obtain ⟨D, hD⟩ := st_cls htw
  obtain ⟨cI, aI, rI⟩ := st_arr (hts _ sa_i) (fun cA h => h)
  obtain ⟨cZ, aZ, rZ⟩ := st_arr (hts _ sa_z) (fun cA h => h)
  obtain ⟨cB, aB, rB⟩ := st_arr (hts _ sa_b) (fun cA h => h)
  obtain ⟨cO, aO, rO⟩ := st_arrG (hts _ sa_o)
  obtain ⟨cG, aG, rG⟩ := st_arrG (hts _ sa_g)
  obtain ⟨cH, aH, rH⟩ := st_arrG (hts _ sa_h)
  obtain ⟨adK, adV, hS, hE⟩ := st_of hn hA
  obtain ⟨t1, ht1, hT1⟩ := va_Tof (f := fun j => .int (ev_g1 j)) (A := fun q : Nat => s.heap.size ≤ q) (N := 100) (by decide) (hn _ d1_ar) (va_eqt (hn _ d1_ln)) (fun j hj => va_eqt (hn _ (List.mem_of_getElem? (d1_el j hj)))) hA
  obtain ⟨t2, ht2, hT2⟩ := va_Tof (f := fun j => .int (ev_g2 j)) (A := fun q : Nat => s.heap.size ≤ q) (N := 100) (by decide) (hn _ d2_ar) (va_eqt (hn _ d2_ln)) (fun j hj => va_eqt (hn _ (List.mem_of_getElem? (d2_el j hj)))) hA
  have hZ1 := va_Zof (hts _ sl_d1) (hts _ si_n) ht1 hA
  have hZ2 := va_Zof (hts _ sl_d2) (hts _ si_n) ht2 hA
  obtain ⟨fm, hfm, hf1⟩ : ∃ fm : Value, va_Z "jdk/internal/util/Preconditions" "SIOOBE_FORMATTER" "Ljava/util/function/BiFunction;" fm (fun q : Nat => s.heap.size ≤ q) s s.heap ∧ fm.category = 1 := by
    rcases va_Zqof (hts _ sl_si) (hts _ si_p) (hn _ st_si) hA with h | ⟨t, h⟩
    · exact ⟨.null, h, rfl⟩
    · exact ⟨.ref t, h, rfl⟩
  refine ⟨((s.heap.size, (t1, t2)), (D, ((cI, (cZ, (cB, (cO, (cG, cH))))), ((adK, adV), (fm, (b, (L, xs))))))), rfl, rfl, rfl, ⟨hD, fun k q hq => ?_⟩, ⟨⟨fun q hq => ?_, fun q hq => ?_, (fun q hq => by cases hq), fun w hw => va_Nw.of (ev_ow_tab (List.mem_filter.mp hw).2) (hts _ (List.mem_filter.mp hw).1), fun q hq => ?_, va_AO.of (hts _ sa_g), va_AO.of (hts _ sa_o), va_AO.of (hts _ sa_h)⟩, ⟨?_, ?_⟩, ?_, hfm, hS, hX, hA b hbl, hf1, hZ1, hZ2, hT1, hT2⟩, va_AO.of (hts _ sa_g)⟩
  · match k, hq with
    | 0, hq => cases hq; exact ⟨aI, rI⟩
    | 1, hq => cases hq; exact ⟨aZ, rZ⟩
    | 2, hq => cases hq; exact ⟨aB, rB⟩
    | 3, hq => cases hq; exact ⟨aO, rO⟩
    | 4, hq => cases hq; exact ⟨aG, rG⟩
    | 5, hq => cases hq; exact ⟨aH, rH⟩
    | k + 6, hq => simp [ev_ty] at hq
  · obtain ⟨i, hi⟩ := List.getElem?_of_mem hq
    have hl : i < 33 := (List.getElem?_eq_some_iff.mp hi).1
    have h1 := ne_word i hl
    rw [hi] at h1
    exact va_Nw.of rfl (hts _ (List.mem_of_getElem? h1))
  · obtain ⟨i, hi⟩ := List.getElem?_of_mem hq
    have hl : i < 15 := (List.getElem?_eq_some_iff.mp hi).1
    have h1 := st_word i hl
    have h2 := st_num i hl
    rw [hi] at h1 h2
    have h2 : q.2.2.2 = i := Option.some.inj h2
    have h3 := hE i hl
    have h4 : st_tm i = Term.string q.1 q.2.1 := by
      unfold st_tm
      rw [List.getD_eq_getElem?_getD, hi]
      rfl
    rw [h4] at h3
    show vk_R q.1 q.2.1 q.2.2.1 (adK q.2.2.2) s
    rw [h2]
    exact vk_R.of (hts _ (List.mem_of_getElem? h1)) h3
  · obtain ⟨i, hi⟩ := List.getElem?_of_mem hq
    have hl : i < 47 := (List.getElem?_eq_some_iff.mp hi).1
    have h1 := fe_word i hl
    rw [hi] at h1
    exact va_Nw.of rfl (hts _ (List.mem_of_getElem? h1))
  · exact vx_Zqof (hts _ sl_us) (hts _ si_t) (hn _ st_us) hA
  · exact vx_Zqof (hts _ sl_ss) (hts _ si_t) (hn _ st_ss) hA
  · exact va_Zof (hts _ sl_cs) (hts _ si_s) (va_eqi (hn _ st_cs)) hA
