/-! ===== the class: a move is made ===== -/
/-- the row behind a move: applied, posted, all that is due -/
def o_move (r : Nat → Int32) (n p m f t q L : Nat) : Nat → Int32 := o_all p n 61 (o_post (o_apply r p m f t) L (Int32.ofNat p) (Int32.ofNat q) 0 (Int32.ofNat (m + 1)) (Int32.ofNat f) (Int32.ofNat t))
theorem IG_move {r : Nat → Int32} {n lim np L d p m f t q : Nat} {ρ : List Nat} (hp : p < 2) (hm : r (12 + 7 * p) = Int32.ofNat m) (hml : m < lim) (hf : f < n * n) (ht : t < n * n) (hft : f ≠ t) (hq : q < np) (hL : L < 80) (h : IG r n lim np L d ρ) : IG (o_move r n p m f t q L) n lim np (L + 1) d ρ := by
  have h60 := (i_dk_of h.1 hp).2.2.2.1
  exact IG_all hp (IG_post (IG_apply hp hm hml hf ht hft h) hL hp hq (by omega) (by omega) hf ht hft (Or.inl rfl))
theorem g_move {g : ev_G} {S : ev_S} {e n lim np L d p m f t q : Nat} {r : Nat → Int32} {ρ : List Nat} (hp : p < 2) (hm : r (12 + 7 * p) = Int32.ofNat m) (hml : m < lim) (hf : f < n * n) (ht : t < n * n) (hft : f ≠ t) (hq : q < np) (hL : L < 80) (ho : o_maker (m + 1) = p) (h : IG r n lim np L d ρ) (hg : q_gm S.1 e r n L ρ) {Q : ev_O → ev_S → Prop}
    (hQ : ∀ z, q_fr S z e 36 → q_gm z.1 e (o_move r n p m f t q L) n (L + 1) ρ → Q (.inl (some (ev_i (Int32.ofNat (m + 1))))) z) :
    ev_Cv g m_X2_makeMove 5 0 [ev_o 2 e, ev_i (Int32.ofNat p), ev_i (Int32.ofNat f), ev_i (Int32.ofNat t), ev_i (Int32.ofNat q)] S Q := by
  have hd := i_dk_of h.1 hp
  have h60 := hd.2.2.2.1
  have hn9 := sq_le hd.2.1
  have hdk := hg.1 p hp
  have e6 : S.1 (e + 1 + 9 * p + 1) 6 = Int32.ofNat m := by
    have := hdk.2.1.2.2.2.2.2.1
    rw [hm] at this
    exact this
  have h4 : S.1 e 4 = r 2 := hg.2.2.2.1
  have hA := IG_apply hp hm hml hf ht hft h
  have hP := IG_post (q := q) (k := m + 1) (isp := 0) hA hL hp hq (by omega) (by omega) hf ht hft (Or.inl rfl)
  have aown : ∀ j, ¬ o_own p j → o_apply r p m f t j = r j := fun j hj => o_apply_own (by omega) (by omega) (by omega) hj
  have a2 : o_apply r p m f t 2 = r 2 := aown 2 (fun hh => by unfold o_own at hh; omega)
  refine sg_X2_makeMove_0 e _ _ _ _ ?_
  rw [a_desk hp, n_mvn, e6, n_inc, h4]
  refine d_own hp hd (h.2.2 p hp) hm hml hf ht hft ho hdk (fun z z1 z2 => ⟨rfl, ?_⟩)
  have gz := q_gm_mine (M' := z.1) hp h hg aown (fun y h1 h2 h3 => z1.2 y h3) z2
  have z4 : z.1 e 4 = o_apply r p m f t 2 := gz.2.2.2.1
  rw [z4]
  refine p_add (x2 := 0) (x3 := Int32.ofNat (m + 1)) (x4 := Int32.ofNat f) (x5 := Int32.ofNat t) hA.2.1.1 hL hp hq gz.2.1 (fun w w0 w1 w2 w6 w7 w8 => ⟨_, rfl, ?_⟩)
  have fr : ∀ y, y < e + 19 ∨ e + 36 ≤ y → w.1 y = z.1 y := fun y hy => w1 y (by omega) (by omega) (by omega) (by omega) (by omega) (by omega) (by omega) (by omega) (by omega)
  have gw := q_gm_add (k := m + 1) (isp := 0) (M' := w.1) hA hL (by omega) gz (fun y h1 h2 => fr y (by omega)) w2 w6 (fun j => by rw [n_mvn]; exact w7 j) (fun j => by rw [if_neg (show ¬ (0 : Int32) = 1 by decide)]; exact w8 j)
  have w4 := gw.2.2.2.1
  rw [w4]
  refine d_settle hp (i_dk_of hP.1 hp) (hP.2.2 p hp) (gw.1 p hp) (fun y y1 y2 => ⟨rfl, ?_⟩)
  have gy := q_gm_mine (M' := y.1) hp hP gw (o_all_own hp 61 _ (i_dk_of hP.1 hp)).2 (fun x h1 h2 h3 => y1.2 x h3) y2
  exact hQ y ⟨y1.1.trans (w0.trans z1.1), fun x hx => by rw [y1.2 x (by omega), fr x (by omega), z1.2 x (by omega)]⟩ gy
