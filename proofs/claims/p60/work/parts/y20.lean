/-! ===== what a StringBuilder holds; what its methods leave alone ===== -/
def jb_fi (r : Nat → Int32) : Prop := ∀ j, ∃ c, c < 128 ∧ r j = Int32.ofNat c
/-- the builder at a holds the text t; its bytes lie at v, m of them -/
def sb_a (S : ev_S) (a : Nat) (t : List Nat) (m v : Nat) : Prop := (4, a) ∈ S.2.1 ∧ S.2.2 a 0 = some v ∧ (10 + m, v) ∈ S.2.1 ∧ S.1 a 1 = 0 ∧ S.1 a 3 = Int32.ofNat t.length ∧ t.length ≤ m ∧ m ≤ 700 ∧ jb_fi (S.1 v) ∧ ∀ j, j < t.length → S.1 v j = Int32.ofNat (t.getD j 0)
/-- only builders and bytes change, things are made -/
def sb_fr (g : ev_G) (S z : ev_S) : Prop := S.2.1 <:+ z.2.1 ∧ ev_lw g z.2.1 ∧ ∀ c k, ev_at g S.2.1 k c → k.1 ≠ 12 → k.1 ≠ 23 → z.1 c = S.1 c ∧ z.2.2 c = S.2.2 c
theorem jb_fit : ∀ c, c < 128 → fits .byte (.int (Int32.ofNat c)) = true := by decide +kernel
theorem jb_nar : ∀ c, c < 128 → vp_nar .byte (Int32.ofNat c) = Int32.ofNat c ∧ (Int32.ofNat c).toInt8.toInt32 = Int32.ofNat c := by decide +kernel
theorem jb_fi0 : jb_fi (fun _ => 0) := fun _ => ⟨0, by decide, rfl⟩
theorem jb_fiU {r : Nat → Int32} {k c : Nat} (h : jb_fi r) (hc : c < 128) : jb_fi (upd r k (Int32.ofNat c)) := by
  intro j
  by_cases e : j = k
  · subst e
    exact ⟨c, hc, pk_us⟩
  · obtain ⟨c', h1, h2⟩ := h j
    exact ⟨c', h1, by rw [pk_un e]; exact h2⟩
theorem jb_fiC {f r : Nat → Int32} {sp dp n : Nat} (hf : ∀ j, j < n → ∃ c, c < 128 ∧ f (sp + j) = Int32.ofNat c) (h : jb_fi r) : jb_fi (va_cpy f r sp dp n) := by
  intro j
  by_cases h1 : dp ≤ j ∧ j < dp + n
  · obtain ⟨c, h2, h3⟩ := hf (j - dp) (by omega)
    exact ⟨c, h2, by rw [pk_cpy_in h1.1 h1.2]; exact h3⟩
  · obtain ⟨c, h2, h3⟩ := h j
    exact ⟨c, h2, by rw [pk_cpy_out (by omega)]; exact h3⟩
theorem jb_uniq {g : ev_G} {Λ : ev_Y} {k k' : Nat × Nat} {a : Nat} (hw : ev_lw g Λ) (h : ev_at g Λ k a) (h' : ev_at g Λ k' a) : k = k' := by
  obtain ⟨i, hi⟩ := List.getElem?_of_mem h
  obtain ⟨j, hj⟩ := List.getElem?_of_mem h'
  rcases Nat.lt_trichotomy i j with h1 | h1 | h1
  · exact ((ev_pw_ne (ev_al_nd hw) h1 hi hj) rfl).elim
  · subst h1
    rw [hi] at hj
    exact congrArg Prod.snd (Option.some.inj hj)
  · exact ((ev_pw_ne (ev_al_nd hw) h1 hj hi) rfl).elim
theorem jb_out {g : ev_G} {Λ : ev_Y} {t q c : Nat} {k : Nat × Nat} (hw : ev_lw g ((t, q) :: Λ)) (hc : ev_at g Λ k c) : ¬ (q ≤ c ∧ c < q + (ev_tk t).length) := by
  rcases ev_mem_al.mp hc with ⟨o, ho, e⟩ | ⟨x, hx, o, ho, e⟩
  · have h1 : ev_b g + 505 ≤ q := hw.1 (t, q) List.mem_cons_self
    have e1 : c = ev_b g + o := congrArg Prod.fst e
    omega
  · have e1 : c = x.2 + o := congrArg Prod.fst e
    have h2 : x.2 + (ev_tk x.1).length ≤ q ∨ q + (ev_tk t).length ≤ x.2 := (List.pairwise_cons.mp hw.2).1 x hx
    omega
theorem jb_at4 {g : ev_G} {Λ : ev_Y} {a : Nat} (h : (4, a) ∈ Λ) : ev_at g Λ (12, 0) a := ev_tree (t := 4) (o := 0) h rfl
theorem jb_at5 {g : ev_G} {Λ : ev_Y} {a : Nat} (h : (5, a) ∈ Λ) : ev_at g Λ (13, 0) a := ev_tree (t := 5) (o := 0) h rfl
theorem jb_atB {g : ev_G} {Λ : ev_Y} {m a : Nat} (h : (10 + m, a) ∈ Λ) : ev_at g Λ (23, m) a := by
  have := jb_okb (g := g) h
  have h2 : ev_at g Λ (ev_ko (1000 + m)) a := this
  rwa [jb_ko] at h2
theorem sb_fr_rfl {g : ev_G} {S : ev_S} (h : ev_lw g S.2.1) : sb_fr g S S := ⟨List.suffix_refl _, h, fun _ _ _ _ _ => ⟨rfl, rfl⟩⟩
theorem sb_fr.trans {g : ev_G} {S z w : ev_S} (h1 : sb_fr g S z) (h2 : sb_fr g z w) : sb_fr g S w :=
  ⟨h1.1.trans h2.1, h2.2.1, fun c k hc h12 h23 => ⟨((h2.2.2 c k (ev_at_up h1.1 hc) h12 h23).1).trans (h1.2.2 c k hc h12 h23).1, ((h2.2.2 c k (ev_at_up h1.1 hc) h12 h23).2).trans (h1.2.2 c k hc h12 h23).2⟩⟩
theorem sb_fr_at {g : ev_G} {S z : ev_S} {a : Nat} {k0 : Nat × Nat} (hw : ev_lw g S.2.1) (h0 : ev_at g S.2.1 k0 a) (hk0 : k0.1 = 12 ∨ k0.1 = 23) (hΛ : z.2.1 = S.2.1) (h1 : ∀ c, c ≠ a → z.1 c = S.1 c) (h2 : ∀ c, c ≠ a → z.2.2 c = S.2.2 c) : sb_fr g S z := by
  refine ⟨by rw [hΛ]; exact List.suffix_refl _, by rw [hΛ]; exact hw, fun c k hc h12 h23 => ?_⟩
  have hne : c ≠ a := by
    rintro rfl
    have e := jb_uniq hw hc h0
    subst e
    rcases hk0 with h | h
    · exact h12 h
    · exact h23 h
  exact ⟨h1 c hne, h2 c hne⟩
theorem jb_nt1 {g : ev_G} {S : ev_S} {t q c : Nat} {k : Nat × Nat} {R : Nat → Nat → Int32} (hw : ev_lw g ((t, q) :: S.2.1)) (hc : ev_at g S.2.1 k c) : (ev_nt S t q R).1 c = S.1 c ∧ (ev_nt S t q R).2.2 c = S.2.2 c := by
  have := jb_out hw hc
  constructor
  · show (if q ≤ c ∧ c < q + (ev_tk t).length then R (c - q) else S.1 c) = _
    rw [if_neg this]
  · show (if q ≤ c ∧ c < q + (ev_tk t).length then (fun _ => none) else S.2.2 c) = _
    rw [if_neg this]
theorem jb_nt2 {S : ev_S} {t q : Nat} {R : Nat → Nat → Int32} (h : 0 < (ev_tk t).length) : (ev_nt S t q R).1 q = R 0 ∧ (ev_nt S t q R).2.2 q = fun _ => none := by
  have h1 : q ≤ q ∧ q < q + (ev_tk t).length := by omega
  constructor
  · show (if q ≤ q ∧ q < q + (ev_tk t).length then R (q - q) else S.1 q) = _
    rw [if_pos h1, Nat.sub_self]
  · show (if q ≤ q ∧ q < q + (ev_tk t).length then (fun _ => none) else S.2.2 q) = _
    rw [if_pos h1]
theorem sb_fr_nt {g : ev_G} {S : ev_S} {t q : Nat} {R : Nat → Nat → Int32} (hw : ev_lw g ((t, q) :: S.2.1)) : sb_fr g S (ev_nt S t q R) :=
  ⟨List.suffix_cons _ _, hw, fun c k hc _ _ => jb_nt1 hw hc⟩
theorem jb_lt {g : ev_G} {Λ : ev_Y} {t q : Nat} (h : (t, q) ∈ Λ) (hw : ev_lw g Λ) {k : Nat × Nat} (hk : (ev_tk t)[0]? = some k) : ev_at g Λ k q := ev_tree (t := t) (o := 0) h hk
/-- the texts of the law's literals -/
def jb_lit (i : Nat) : List Nat := match i with
  | 10 => [103, 97, 109, 101, 32]
  | 11 => [98, 105, 115, 104, 111, 112, 32]
  | 12 => [112, 97, 115, 115, 32]
  | 13 => [115, 110, 111, 119, 32]
  | _ => []
theorem jb_lit_ok : ∀ i, i < 14 → 10 ≤ i → ev_le.getD i 0 = (jb_lit i).length ∧ (jb_lit i).length ≤ 7 ∧ ∀ j, j < (jb_lit i).length → (ev_bt.getD i []).getD j 0 = Int32.ofNat ((jb_lit i).getD j 0) ∧ (jb_lit i).getD j 0 < 128 := by decide +kernel
/-- the builder's capacity behind a growth -/
def jb_cap (n m : Nat) : Nat := if n ≤ m then m else m + (if n - m < m + 2 then m + 2 else n - m)
theorem jb_cap_ok {n m : Nat} (hn : n ≤ 300) (hm : m ≤ 700) : n ≤ jb_cap n m ∧ m ≤ jb_cap n m ∧ jb_cap n m ≤ 700 := by
  unfold jb_cap
  split
  · omega
  · split <;> omega
theorem jb_app_get {t s : List Nat} {j : Nat} : (t ++ s).getD j 0 = if j < t.length then t.getD j 0 else s.getD (j - t.length) 0 := by
  rw [List.getD_eq_getElem?_getD, List.getD_eq_getElem?_getD, List.getD_eq_getElem?_getD, List.getElem?_append]
  split <;> rfl
