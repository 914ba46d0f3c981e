/-! ===== the law feeds a text to the class (printed by gen_y27.py) ===== -/
theorem jb_by_get {t : List Nat} {j : Nat} : jb_by t j = t.getD j 0 := by
  unfold jb_by
  split
  · rfl
  · rw [List.getD_eq_getElem?_getD, List.getElem?_eq_none (by omega)]
    rfl
theorem jb_by_drop {t : List Nat} {k i : Nat} : jb_by t (k + i) = (t.drop k).getD i 0 := by
  rw [jb_by_get, List.getD_eq_getElem?_getD, List.getD_eq_getElem?_getD, List.getElem?_drop]
theorem jb_byo1 {N s : Nat} (hN : N < 2 ^ 31) (hs : s = 24 ∨ s = 16 ∨ s = 8 ∨ s = 0) : byo (Int32.ofNat N) (Int32.ofNat s) = Int32.ofNat (N / 2 ^ s % 256) := by
  have key : ∀ s, s = 24 ∨ s = 16 ∨ s = 8 ∨ s = 0 → (BitVec.ofNat 32 N >>> s) &&& 255#32 = BitVec.ofNat 32 (N / 2 ^ s % 256) := by
    intro s _
    apply BitVec.eq_of_toNat_eq
    rw [BitVec.toNat_and, BitVec.toNat_ushiftRight, BitVec.toNat_ofNat, BitVec.toNat_ofNat, Nat.mod_eq_of_lt (show N < 2 ^ 32 by omega), Nat.shiftRight_eq_div_pow, Nat.mod_eq_of_lt (show N / 2 ^ s % 256 < 2 ^ 32 by omega)]
    exact Nat.and_two_pow_sub_one_eq_mod _ 8
  have := key s hs
  rcases hs with rfl | rfl | rfl | rfl
  · exact Int32.toBitVec_inj.mp this
  · exact Int32.toBitVec_inj.mp this
  · exact Int32.toBitVec_inj.mp this
  · exact Int32.toBitVec_inj.mp this
theorem jb_n0 {c : Nat} (hc : c < 128) : (Int32.ofNat c = 0) ↔ c = 0 := by
  constructor
  · intro h
    exact (nI_eq (a := c) (b := 0) (by omega) (by omega)).mp h
  · rintro rfl
    rfl
theorem jb_b4 {t : List Nat} (ha : ∀ c ∈ t, 0 < c ∧ c < 128) (k : Nat) : b4 (Int32.ofNat (jb_4 t k)) = ((t.drop k).take 4).map Int32.ofNat := by
  have hl : ∀ c ∈ t.drop k, 0 < c ∧ c < 128 := fun c hc => ha c (List.mem_of_mem_drop hc)
  unfold jb_4
  rw [jb_by_drop, jb_by_drop, jb_by_drop, jb_by_drop]
  generalize t.drop k = l at hl
  have key : ∀ a b c d : Nat, a < 128 → b < 128 → c < 128 → d < 128 → byo (Int32.ofNat ((((0 * 256 + a) * 256 + b) * 256 + c) * 256 + d)) 24 = Int32.ofNat a ∧ byo (Int32.ofNat ((((0 * 256 + a) * 256 + b) * 256 + c) * 256 + d)) 16 = Int32.ofNat b ∧ byo (Int32.ofNat ((((0 * 256 + a) * 256 + b) * 256 + c) * 256 + d)) 8 = Int32.ofNat c ∧ byo (Int32.ofNat ((((0 * 256 + a) * 256 + b) * 256 + c) * 256 + d)) 0 = Int32.ofNat d := by
    intro a b c d ha hb hc hd
    refine ⟨(jb_byo1 (s := 24) (by omega) (by omega)).trans (congrArg Int32.ofNat (by omega)), (jb_byo1 (s := 16) (by omega) (by omega)).trans (congrArg Int32.ofNat (by omega)), (jb_byo1 (s := 8) (by omega) (by omega)).trans (congrArg Int32.ofNat (by omega)), (jb_byo1 (s := 0) (by omega) (by omega)).trans (congrArg Int32.ofNat (by omega))⟩
  rcases l with _ | ⟨a, _ | ⟨b, _ | ⟨c, _ | ⟨d, r⟩⟩⟩⟩
  · decide
  · have h1 := hl a (by simp)
    obtain ⟨e1, e2, e3, e4⟩ := key a 0 0 0 (by omega) (by omega) (by omega) (by omega)
    show bl _ [24, 16, 8, 0] = [Int32.ofNat a]
    simp only [List.getD_cons_zero, List.getD_cons_succ, List.getD_nil]
    rw [bl, bl, bl, bl, bl, e1, e2, e3, e4, if_neg (fun h9 => by have := (jb_n0 (by omega)).mp h9; omega), if_pos rfl, if_pos rfl, if_pos rfl]
  · have h1 := hl a (by simp)
    have h2 := hl b (by simp)
    obtain ⟨e1, e2, e3, e4⟩ := key a b 0 0 (by omega) (by omega) (by omega) (by omega)
    show bl _ [24, 16, 8, 0] = [Int32.ofNat a, Int32.ofNat b]
    simp only [List.getD_cons_zero, List.getD_cons_succ, List.getD_nil]
    rw [bl, bl, bl, bl, bl, e1, e2, e3, e4, if_neg (fun h9 => by have := (jb_n0 (by omega)).mp h9; omega), if_neg (fun h9 => by have := (jb_n0 (by omega)).mp h9; omega), if_pos rfl, if_pos rfl]
  · have h1 := hl a (by simp)
    have h2 := hl b (by simp)
    have h3 := hl c (by simp)
    obtain ⟨e1, e2, e3, e4⟩ := key a b c 0 (by omega) (by omega) (by omega) (by omega)
    show bl _ [24, 16, 8, 0] = [Int32.ofNat a, Int32.ofNat b, Int32.ofNat c]
    simp only [List.getD_cons_zero, List.getD_cons_succ, List.getD_nil]
    rw [bl, bl, bl, bl, bl, e1, e2, e3, e4, if_neg (fun h9 => by have := (jb_n0 (by omega)).mp h9; omega), if_neg (fun h9 => by have := (jb_n0 (by omega)).mp h9; omega), if_neg (fun h9 => by have := (jb_n0 (by omega)).mp h9; omega), if_pos rfl]
  · have h1 := hl a (by simp)
    have h2 := hl b (by simp)
    have h3 := hl c (by simp)
    have h4 := hl d (by simp)
    obtain ⟨e1, e2, e3, e4⟩ := key a b c d (by omega) (by omega) (by omega) (by omega)
    show bl _ [24, 16, 8, 0] = [Int32.ofNat a, Int32.ofNat b, Int32.ofNat c, Int32.ofNat d]
    simp only [List.getD_cons_zero, List.getD_cons_succ, List.getD_nil]
    rw [bl, bl, bl, bl, bl, e1, e2, e3, e4, if_neg (fun h9 => by have := (jb_n0 (by omega)).mp h9; omega), if_neg (fun h9 => by have := (jb_n0 (by omega)).mp h9; omega), if_neg (fun h9 => by have := (jb_n0 (by omega)).mp h9; omega), if_neg (fun h9 => by have := (jb_n0 (by omega)).mp h9; omega)]
/-- twenty letters in five numbers -/
theorem jb_b20 {t : List Nat} (ha : ∀ c ∈ t, 0 < c ∧ c < 128) (k : Nat) : (((b4 (Int32.ofNat (jb_4 t k)) ++ b4 (Int32.ofNat (jb_4 t (k + 4)))) ++ b4 (Int32.ofNat (jb_4 t (k + 8)))) ++ b4 (Int32.ofNat (jb_4 t (k + 12)))) ++ b4 (Int32.ofNat (jb_4 t (k + 16))) = ((t.drop k).take 20).map Int32.ofNat := by
  rw [jb_b4 ha, jb_b4 ha, jb_b4 ha, jb_b4 ha, jb_b4 ha, ← List.drop_drop, ← List.drop_drop, ← List.drop_drop, ← List.drop_drop]
  generalize t.drop k = l
  rw [← List.map_append, ← List.map_append, ← List.map_append, ← List.map_append]
  rw [← List.take_add, show l.drop 8 = (l.drop 4).drop 4 from by rw [List.drop_drop], ← List.drop_drop]
  sorry
