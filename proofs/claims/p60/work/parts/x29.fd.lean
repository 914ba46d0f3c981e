/-! ===== the law: what holds between its rounds ===== -/
def IO (M : Nat → Nat → Int32) (a m : Nat) : Prop := ∃ w, w ≤ 400 ∧ M (a + 9) 1 = Int32.ofNat w ∧ M m 27 = Int32.ofNat w ∧ ∀ j, j < w → M (a + 10) j = M (m + 10) j
def IT (M : Nat → Nat → Int32) (a m : Nat) : Prop := ∃ n, n ≤ 800 ∧ M (a + 1) 1 = Int32.ofNat n ∧ M m 10 = Int32.ofNat n ∧ ∀ j, j < n → M (m + 7) j = M (a + 2) j ∧ ¬ M (a + 2) j = -1
def IS (M : Nat → Nat → Int32) (a m : Nat) : Prop := ∀ s, s < 2 → q_sh M (a + 423 + 41 * s) ∧ (M (m + 6) s = 0 ↔ M a (8 + s) = 0) ∧ (¬ M a (8 + s) = 0 → ∃ r, (∀ j, j < 2091 → M (m + 5) (2091 * s + j) = r j) ∧ q_any M (a + 423 + 41 * s) r)
def IH (M : Nat → Nat → Int32) (a m : Nat) : Prop := ∃ u, q_his M (a + 93) (M (m + 4)) u ∧ u ≤ 8 ∧ M m 6 = Int32.ofNat u
def IE (M : Nat → Nat → Int32) (a m : Nat) : Prop := M m 8 = -1 ∧ M m 23 = 0 ∧ M m 11 = M a 10 ∧ M m 12 = M a 11
theorem q_sh_fr {M M' : Nat → Nat → Int32} {e : Nat} (h : q_sh M e) (f1 : M' (e + 1) = M (e + 1)) (f2 : M' (e + 10) = M (e + 10)) : q_sh M' e := by
  unfold q_sh at h ⊢
  rw [f1, f2]
  exact h
theorem IS_fr {M M' : Nat → Nat → Int32} {a m : Nat} (h : IS M a m) (f1 : ∀ q, a + 423 ≤ q → q < a + 505 → M' q = M q) (f2 : M' (m + 5) = M (m + 5)) (f3 : M' (m + 6) = M (m + 6)) (f4 : ∀ s, s < 2 → M' a (8 + s) = M a (8 + s)) : IS M' a m := by
  intro s hs
  obtain ⟨h1, h2, h3⟩ := h s hs
  refine ⟨q_sh_fr h1 (f1 _ (by omega) (by omega)) (f1 _ (by omega) (by omega)), by rw [f3, f4 s hs]; exact h2, fun hn => ?_⟩
  rw [f4 s hs] at hn
  obtain ⟨r, r1, r2⟩ := h3 hn
  exact ⟨r, by rw [f2]; exact r1, q_any_frame (M := M) (fun q q1 q2 => f1 q (by omega) (by omega)) r2⟩
theorem IT_fr {M M' : Nat → Nat → Int32} {a m : Nat} (h : IT M a m) (f1 : M' (a + 1) = M (a + 1)) (f2 : M' (a + 2) = M (a + 2)) (f3 : M' (m + 7) = M (m + 7)) (f4 : M' m 10 = M m 10) : IT M' a m := by
  unfold IT at h ⊢
  rw [f1, f2, f3, f4]
  exact h
theorem IO_fr {M M' : Nat → Nat → Int32} {a m : Nat} (h : IO M a m) (f1 : M' (a + 9) = M (a + 9)) (f2 : M' (a + 10) = M (a + 10)) (f3 : M' (m + 10) = M (m + 10)) (f4 : M' m 27 = M m 27) : IO M' a m := by
  unfold IO at h ⊢
  rw [f1, f2, f3, f4]
  exact h
theorem IH_fr {M M' : Nat → Nat → Int32} {a m : Nat} (h : IH M a m) (f1 : ∀ q, a + 93 ≤ q → q < a + 423 → M' q = M q) (f2 : M' (m + 4) = M (m + 4)) (f3 : M' m 6 = M m 6) : IH M' a m := by
  obtain ⟨u, h1, h2, h3⟩ := h
  exact ⟨u, by rw [f2]; exact q_his_fr (M := M) (fun q q1 q2 => f1 q q1 (by omega)) h1, h2, by rw [f3]; exact h3⟩
theorem lg_self (x : Int64) : lg_cmp x x = 0 := by
  unfold lg_cmp
  simp