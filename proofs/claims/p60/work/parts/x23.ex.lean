/-! ===== one pass alone ===== -/
theorem cnt_ex {f : Nat → Bool} {L i : Nat} (hL : L ≤ i) : ∀ M, i < M → (∀ l, L ≤ l → l < M → l ≠ i → ¬ f l = true) → cnt f M = cnt f L + (if f i = true then 1 else 0) := by
  have h0 : ∀ m, (∀ l, L ≤ l → l < L + m → ¬ f l = true) → cnt f (L + m) = cnt f L := by
    intro m
    induction m with
    | zero => intro _; rfl
    | succ m ih =>
      intro h
      have e : L + (m + 1) = L + m + 1 := rfl
      rw [e, cnt_f (h _ (by omega) (by omega))]
      exact ih (fun l h1 h2 => h l h1 (by omega))
  have h1 : ∀ m, (∀ l, L ≤ l → l < i + 1 + m → l ≠ i → ¬ f l = true) → cnt f (i + 1 + m) = cnt f L + (if f i = true then 1 else 0) := by
    intro m
    induction m with
    | zero =>
      intro h
      have e := h0 (i - L) (fun l a b => h l a (by omega) (by omega))
      have e2 : L + (i - L) = i := by omega
      rw [e2] at e
      show cnt f i + (if f i = true then 1 else 0) = _
      rw [e]
    | succ m ih =>
      intro h
      have e : i + 1 + (m + 1) = i + 1 + m + 1 := rfl
      rw [e, cnt_f (h _ (by omega) (by omega) (by omega))]
      exact ih (fun l a b c => h l a (by omega) c)
  intro M hM h
  have e : i + 1 + (M - (i + 1)) = M := by omega
  have := h1 (M - (i + 1)) (by rw [e]; exact h)
  rw [e] at this
  exact this
theorem s_1 {v : Int32} {b : Nat} : v + 1 - Int32.ofNat (b + 1) = v - Int32.ofNat b := by
  rw [← n_inc, Int32.sub_eq_add_neg, Int32.sub_eq_add_neg, Int32.neg_add, Int32.add_assoc, Int32.add_comm 1, Int32.sub_add_cancel]
theorem s_c {v w c : Int32} (h : v - c = w - c) : v = w := by
  have := congrArg (fun t => t + c) h
  simpa [Int32.sub_add_cancel] using this
/-- letters that came to side s of pass q -/
def cm (r : Nat → Int32) (q s l : Nat) : Bool := decide (r (1200 + 11 * l + 1) = Int32.ofNat q ∧ r (1200 + 11 * l) = Int32.ofNat (1 - s) ∧ r (1200 + 11 * l + 6) = 2)
def g9 (r : Nat → Int32) (d l : Nat) : Int32 := if r (1140 + 15 * o_q r l + (3 + d / 30 % 12)) = 9 then r (1200 + 11 * l + 9) else r (1200 + 11 * l + 9) - 1
def g6 (r : Nat → Int32) (d l : Nat) : Int32 := if r (1140 + 15 * o_q r l + (3 + d / 30 % 12)) = 9 then r (1200 + 11 * l + 6) else if r (1200 + 11 * l + 9) - 1 = 0 then 2 else r (1200 + 11 * l + 6)
def okl (r : Nat → Int32) (M : Nat) : Prop := ∀ l, l < M → ∃ b q, b < 2 ∧ q < 4 ∧ r (1200 + 11 * l) = Int32.ofNat b ∧ r (1200 + 11 * l + 1) = Int32.ofNat q
theorem okl_bq {r : Nat → Int32} {M l : Nat} (h : okl r M) (hl : l < M) : o_b r l < 2 ∧ o_q r l < 4 ∧ r (1200 + 11 * l) = Int32.ofNat (o_b r l) ∧ r (1200 + 11 * l + 1) = Int32.ofNat (o_q r l) := by
  obtain ⟨b, q, h1, h2, h3, h4⟩ := h l hl
  unfold o_b o_q
  rw [h3, h4, n_c (by omega), n_c (by omega)]
  exact ⟨h1, h2, rfl, rfl⟩
theorem gp_f {r : Nat → Int32} {d l M : Nat} (ho : okl r M) (hl : l < M) (h6 : r (1200 + 11 * l + 6) = 1) :
    (∀ l', l' ≠ l → ∀ w, w < 11 → o_gp r d l (1200 + 11 * l' + w) = r (1200 + 11 * l' + w)) ∧ (∀ w, w < 6 → o_gp r d l (1200 + 11 * l + w) = r (1200 + 11 * l + w)) ∧ o_gp r d l (1200 + 11 * l + 6) = g6 r d l ∧ o_gp r d l (1200 + 11 * l + 9) = g9 r d l ∧
    (∀ q w, q < 4 → w < 15 → w ≠ 1 → w ≠ 2 → o_gp r d l (1140 + 15 * q + w) = r (1140 + 15 * q + w)) ∧ ∀ q s, q < 4 → s < 2 → o_gp r d l (1140 + 15 * q + (1 + s)) - Int32.ofNat (cnt (cm (o_gp r d l) q s) M) = r (1140 + 15 * q + (1 + s)) - Int32.ofNat (cnt (cm r q s) M) := by
  obtain ⟨hb, hq, hb', hq'⟩ := okl_bq ho hl
  unfold o_gp g6 g9
  generalize hQ : o_q r l = qq at *
  generalize hB : o_b r l = bb at *
  by_cases hs : r (1140 + 15 * qq + (3 + d / 30 % 12)) = 9
  · rw [if_pos hs, if_pos hs, if_pos hs]
    exact ⟨fun _ _ _ _ => rfl, fun _ _ => rfl, rfl, rfl, fun _ _ _ _ _ _ => rfl, fun _ _ _ _ => rfl⟩
  rw [if_neg hs, if_neg hs, if_neg hs]
  by_cases h9 : r (1200 + 11 * l + 9) - 1 = 0
  · rw [if_pos h9, if_pos h9]
    generalize hz : upd r (1200 + 11 * l + 9) (r (1200 + 11 * l + 9) - 1) = z
    have ez : ∀ j, j ≠ 1200 + 11 * l + 9 → z j = r j := fun j hj => by rw [← hz, u_k hj]
    have ea : ∀ j, j ≠ 1200 + 11 * l + 6 → j ≠ 1200 + 11 * l + 10 → j ≠ 1140 + 15 * qq + (1 + (1 - bb)) → j ≠ 7 → j ≠ 8 → o_arr z l bb qq j = z j := fun j j6 j10 js j7 j8 => by
      unfold o_arr
      rw [u_k j8, u_k j7, u_k js, u_k j10, u_k j6]
    have e6 : o_arr z l bb qq (1200 + 11 * l + 6) = 2 := by
      unfold o_arr
      rw [u_k (by omega), u_k (by omega), u_k (by omega), u_k (by omega), u_s]
    have es : o_arr z l bb qq (1140 + 15 * qq + (1 + (1 - bb))) = r (1140 + 15 * qq + (1 + (1 - bb))) + 1 := by
      unfold o_arr
      rw [u_k (by omega), u_k (by omega), u_s, ez _ (by omega)]
    generalize o_arr z l bb qq = y at *
    have ey : ∀ j, j ≠ 1200 + 11 * l + 6 → j ≠ 1200 + 11 * l + 9 → j ≠ 1200 + 11 * l + 10 → j ≠ 1140 + 15 * qq + (1 + (1 - bb)) → j ≠ 7 → j ≠ 8 → y j = r j := fun j j6 j9 j10 js j7 j8 => by rw [ea j j6 j10 js j7 j8, ez j j9]
    refine ⟨fun l' hl' w hw => ey _ (by omega) (by omega) (by omega) (by omega) (by omega) (by omega), fun w hw => ey _ (by omega) (by omega) (by omega) (by omega) (by omega) (by omega), e6, ?_, fun q w hq4 hw h1 h2 => ey _ (by omega) (by omega) (by omega) (by omega) (by omega) (by omega), fun q s hq4 hs2 => ?_⟩
    · rw [ea _ (by omega) (by omega) (by omega) (by omega) (by omega), ← hz, u_s]
    · have hne : ∀ j, j ≠ l → cm y q s j = cm r q s j := fun j hj => by
        unfold cm
        rw [ey _ (by omega) (by omega) (by omega) (by omega) (by omega) (by omega), ey _ (by omega) (by omega) (by omega) (by omega) (by omega) (by omega), ey _ (by omega) (by omega) (by omega) (by omega) (by omega) (by omega)]
      have hr0 : ¬ cm r q s l = true := by
        unfold cm
        rw [decide_eq_true_eq, h6]
        exact fun h => absurd h.2.2 (by decide)
      have hy : cm y q s l = decide (qq = q ∧ bb = 1 - s) := by
        unfold cm
        refine decide_eq_decide.mpr ?_
        rw [e6, ey _ (by omega) (by omega) (by omega) (by omega) (by omega) (by omega), ey _ (by omega) (by omega) (by omega) (by omega) (by omega) (by omega), hq', hb', n_eq (by omega) (by omega), n_eq (by omega) (by omega)]
        exact ⟨fun h => ⟨h.1, h.2.1⟩, fun h => ⟨h.1, h.2, rfl⟩⟩
      have hc := cnt_one (f := cm r q s) (h := cm y q s) hne M hl
      rw [if_neg hr0, hy] at hc
      by_cases hh : qq = q ∧ bb = 1 - s
      · rw [if_pos (by rw [decide_eq_true_eq]; exact hh)] at hc
        have hc' : cnt (cm y q s) M = cnt (cm r q s) M + 1 := hc
        obtain ⟨h1, h2⟩ := hh
        have : 1 + s = 1 + (1 - bb) := by omega
        rw [hc', this, ← h1, es, s_1]
      · rw [if_neg (by rw [decide_eq_true_eq]; exact hh)] at hc
        have hc' : cnt (cm y q s) M = cnt (cm r q s) M := hc
        rw [hc', ey _ (by omega) (by omega) (by omega) (by omega) (by omega) (by omega)]
  · rw [if_neg h9, if_neg h9]
    generalize hz : upd r (1200 + 11 * l + 9) (r (1200 + 11 * l + 9) - 1) = z
    have ez : ∀ j, j ≠ 1200 + 11 * l + 9 → z j = r j := fun j hj => by rw [← hz, u_k hj]
    refine ⟨fun l' hl' w hw => ez _ (by omega), fun w hw => ez _ (by omega), ez _ (by omega), by rw [← hz, u_s], fun q w hq4 hw h1 h2 => ez _ (by omega), fun q s hq4 hs2 => ?_⟩
    rw [ez _ (by omega), cnt_congr (f := cm z q s) (h := cm r q s) M (fun j hj => by unfold cm; rw [ez _ (by omega), ez _ (by omega), ez _ (by omega)])]
theorem okl_same {r r' : Nat → Int32} {M : Nat} (h : okl r M) (e : ∀ l, l < M → r' (1200 + 11 * l) = r (1200 + 11 * l) ∧ r' (1200 + 11 * l + 1) = r (1200 + 11 * l + 1)) : okl r' M := by
  intro l hl
  rw [(e l hl).1, (e l hl).2]
  exact h l hl
/-- all that is on the road goes on -/
theorem tp_f {d M : Nat} : ∀ (ρ : List Nat) (r : Nat → Int32), okl r M → ρ.Nodup → (∀ l, l ∈ ρ → l < M ∧ r (1200 + 11 * l + 6) = 1) →
    (∀ l, l < M → l ∉ ρ → ∀ w, w < 11 → o_tp d ρ r (1200 + 11 * l + w) = r (1200 + 11 * l + w)) ∧ (∀ l, l < M → ∀ w, w < 6 → o_tp d ρ r (1200 + 11 * l + w) = r (1200 + 11 * l + w)) ∧ (∀ l, l ∈ ρ → o_tp d ρ r (1200 + 11 * l + 6) = g6 r d l ∧ o_tp d ρ r (1200 + 11 * l + 9) = g9 r d l) ∧
    (∀ q w, q < 4 → w < 15 → w ≠ 1 → w ≠ 2 → o_tp d ρ r (1140 + 15 * q + w) = r (1140 + 15 * q + w)) ∧ ∀ q s, q < 4 → s < 2 → o_tp d ρ r (1140 + 15 * q + (1 + s)) - Int32.ofNat (cnt (cm (o_tp d ρ r) q s) M) = r (1140 + 15 * q + (1 + s)) - Int32.ofNat (cnt (cm r q s) M) := by
  intro ρ
  induction ρ with
  | nil => intro r _ _ _; exact ⟨fun _ _ _ _ _ => rfl, fun _ _ _ _ => rfl, fun l hl => by simp at hl, fun _ _ _ _ _ _ => rfl, fun _ _ _ _ => rfl⟩
  | cons l0 ρ ih =>
    intro r ho hn hm
    obtain ⟨hn0, hn1⟩ := List.nodup_cons.mp hn
    obtain ⟨hl0, h60⟩ := hm l0 (List.mem_cons_self ..)
    obtain ⟨a1, a2, a3, a4, a5, a6⟩ := gp_f (d := d) ho hl0 h60
    have e : ∀ l, l ∈ ρ → l ≠ l0 := fun l hl hh => hn0 (by rw [← hh]; exact hl)
    have ho1 : okl (o_gp r d l0) M := okl_same ho (fun l hl => by
      by_cases hh : l = l0
      · subst hh; exact ⟨a2 0 (by omega), a2 1 (by omega)⟩
      · exact ⟨a1 l hh 0 (by omega), a1 l hh 1 (by omega)⟩)
    obtain ⟨b1, b2, b3, b4, b5⟩ := ih (o_gp r d l0) ho1 hn1 (fun l hl => ⟨(hm l (List.mem_cons_of_mem _ hl)).1, by rw [a1 l (e l hl) 6 (by omega)]; exact (hm l (List.mem_cons_of_mem _ hl)).2⟩)
    have et : o_tp d (l0 :: ρ) r = o_tp d ρ (o_gp r d l0) := rfl
    rw [et]
    refine ⟨fun l hl hn w hw => ?_, fun l hl w hw => ?_, fun l hl => ?_, fun q w h1 h2 h3 h4 => by rw [b4 q w h1 h2 h3 h4, a5 q w h1 h2 h3 h4], fun q s h1 h2 => by rw [b5 q s h1 h2, a6 q s h1 h2]⟩
    · rw [b1 l hl (fun h => hn (List.mem_cons_of_mem _ h)) w hw, a1 l (fun h => hn (by rw [h]; exact List.mem_cons_self ..)) w hw]
    · rw [b2 l hl w hw]
      by_cases hh : l = l0
      · subst hh; exact a2 w hw
      · exact a1 l hh w (by omega)
    · rcases List.mem_cons.mp hl with rfl | hl
      · exact ⟨by rw [b1 l hl0 hn0 6 (by omega)]; exact a3, by rw [b1 l hl0 hn0 9 (by omega)]; exact a4⟩
      · have hle := e l hl
        have hlM := (hm l (List.mem_cons_of_mem _ hl)).1
        obtain ⟨hb, hq, -, -⟩ := okl_bq ho hlM
        have q1 : o_q (o_gp r d l0) l = o_q r l := by unfold o_q; rw [a1 l hle 1 (by omega)]
        obtain ⟨c1, c2⟩ := b3 l hl
        unfold g6 at c1 ⊢
        unfold g9 at c2 ⊢
        rw [q1, a5 _ _ hq (by omega) (by omega) (by omega), a1 l hle 6 (by omega), a1 l hle 9 (by omega)] at c1
        rw [q1, a5 _ _ hq (by omega) (by omega) (by omega), a1 l hle 9 (by omega)] at c2
        exact ⟨c1, c2⟩
