/-! ===== both: a change is taken back ===== -/
def o_un (now R : Nat → Int32) (u i : Nat) : Nat → Int32 := fun j => if i ≤ j ∧ j < 2091 then R (2091 * u + j) else now j
theorem h_takeBack {g : ev_G} {S : ev_S} {a b u : Nat} {R : Nat → Int32} (hab : b + 41 ≤ a ∨ a + 330 ≤ b) (hu1 : 1 ≤ u) (h : q_his S.1 a R u) (hs : q_sh S.1 b) {Q : ev_O → ev_S → Prop}
    (hQ : ∀ z r, z.2 = S.2 → (∀ q, (q < b ∨ b + 36 ≤ q) → q ≠ a → z.1 q = S.1 q) → (∀ j, j < 2091 → R (2091 * (u - 1) + j) = r j) → q_any z.1 b r → q_his z.1 a R (u - 1) → q_sh z.1 b → z.1 a 1 = Int32.ofNat (u - 1) → Q (.inl none) z) : ev_Cv g m_X3_takeBack 5 0 [ev_o 3 a, ev_o 2 b] S Q := by
  obtain ⟨h1, hu, w, hw, h2, hsh, hg⟩ := h
  have e8 : (8 : Int32) = Int32.ofNat 8 := rfl
  have e0 : (0 : Int32) = Int32.ofNat 0 := rfl
  obtain ⟨r, er, hr⟩ := hg 0 (by omega)
  rw [show (w + 8 - 0) % 8 = w by omega] at hr
  rw [show u - 1 - 0 = u - 1 by omega] at er
  obtain ⟨n, lim, np, L, d, ρ, i1, i2, i3, i4, i5⟩ := hr
  refine sg_X3_takeBack_0 a b ?_
  rw [h2]
  refine ⟨fun hh => ?_, fun _ hh => ?_, fun _ _ => (n_vp (by omega) (by omega)).mpr trivial, ?_⟩
  · rw [n_neg (by omega)] at hh; exact hh
  · rw [e8, n_le (by omega) (by omega)] at hh; omega
  · have ea : a_past (a + 1) (Int32.ofNat w) = a + 2 + 41 * w := by
      unfold a_past
      rw [n_c (by omega)]
    rw [ea]
    refine g_copied (a := b) (b := a + 2 + 41 * w) (by omega) i1 hs.1 hs.2 i4 (fun z z1 z2 z3 z4 => ⟨rfl, ?_⟩)
    have za : z.1 a = S.1 a := z1.2 a (by omega)
    rw [za, h1, h2, n_dec u hu1, e0, n_le (by omega) (by omega)]
    have fin : ∀ y : ev_S, y.2 = S.2 → (∀ q, q ≠ a → y.1 q = z.1 q) → y.1 a 1 = Int32.ofNat (u - 1) → y.1 a 2 = Int32.ofNat ((w + 7) % 8) → Q (.inl none) y := by
      intro y y0 y1 y2 y3
      have hl7 : (w + 7) % 8 < 8 := Nat.mod_lt _ (by decide)
      refine hQ y r y0 (fun q hq hqa => by rw [y1 q hqa, z1.2 q hq]) er ⟨n, lim, np, L, d, ρ, i1, i2, i3, q_gm_frame (M := z.1) (fun q h1 h2 => y1 q (by omega)) z4, i5⟩ ⟨y2, by omega, (w + 7) % 8, hl7, y3, fun i hi => ?_, fun i hi => ?_⟩ ⟨by rw [y1 _ (by omega)]; exact z2, by rw [y1 _ (by omega)]; exact z3⟩ y2
      · obtain ⟨s1, s2⟩ := hsh i hi
        exact ⟨by rw [y1 _ (by omega), z1.2 _ (by omega)]; exact s1, by rw [y1 _ (by omega), z1.2 _ (by omega)]; exact s2⟩
      · obtain ⟨r0, k0, q0⟩ := hg (i + 1) (by omega)
        have hix : ((w + 7) % 8 + 8 - i) % 8 = (w + 8 - (i + 1)) % 8 := by omega
        have hl8 : (w + 8 - (i + 1)) % 8 < 8 := Nat.mod_lt _ (by decide)
        refine ⟨r0, fun j hj => ?_, ?_⟩
        · rw [← k0 j hj, show u - 1 - 1 - i = u - 1 - (i + 1) by omega]
        · rw [hix]
          generalize (w + 8 - (i + 1)) % 8 = x at *
          exact q_any_frame (M := S.1) (fun q h1 h2 => by rw [y1 q (by omega), z1.2 q (by omega)]) q0
    refine ⟨fun hw0 => ?_, fun hw0 => ?_⟩
    · intro S2 h3 S3 h4
      refine fin S3 (by rw [h4, h3]; exact z1.1) (fun q hq => by rw [h4, m_r hq, h3, m_r hq]) (by rw [h4, m_s]) ?_
      rw [h4, m_k (by omega), h3, m_s, show (w + 7) % 8 = 7 by omega]
      rfl
    · intro S4 h3 S5 h4
      rw [n_dec w (by omega)] at h3
      refine fin S5 (by rw [h4, h3]; exact z1.1) (fun q hq => by rw [h4, m_r hq, h3, m_r hq]) (by rw [h4, m_s]) ?_
      rw [h4, m_k (by omega), h3, m_s, show (w + 7) % 8 = w - 1 by omega]
