/-! ===== what stays of the JDK's things; the frame; 'ev_E'; a row an instruction ===== -/
/-- the nest mates' private static methods that are called by name: by whom, at which entry, which, in whose nest -/
def ev_ne : List (String × (Nat × (MethodName × String))) := [("MulePostBishops", (11, (⟨"MulePostBishops$Text", "<init>", "()V"⟩, "MulePostBishops"))), ("MulePostBishops", (18, (⟨"MulePostBishops$Script", "<init>", "()V"⟩, "MulePostBishops"))), ("MulePostBishops", (25, (⟨"MulePostBishops$Output", "<init>", "()V"⟩, "MulePostBishops"))), ("MulePostBishops", (32, (⟨"MulePostBishops$Game", "<init>", "()V"⟩, "MulePostBishops"))), ("MulePostBishops$Desk", (11, (⟨"MulePostBishops$Board", "<init>", "()V"⟩, "MulePostBishops"))), ("MulePostBishops$Game", (25, (⟨"MulePostBishops$Post", "<init>", "()V"⟩, "MulePostBishops"))), ("MulePostBishops$Post", (11, (⟨"MulePostBishops$Passes", "<init>", "()V"⟩, "MulePostBishops"))), ("MulePostBishops$Game", (32, (⟨"MulePostBishops$Board", "<init>", "()V"⟩, "MulePostBishops"))), ("MulePostBishops$History", (17, (⟨"MulePostBishops$Game", "<init>", "()V"⟩, "MulePostBishops"))), ("MulePostBishops$Text", (22, (⟨"MulePostBishops", "put", "([III)V"⟩, "MulePostBishops"))), ("MulePostBishops$Text", (41, (⟨"MulePostBishops", "at", "([II)I"⟩, "MulePostBishops"))), ("MulePostBishops$Board", (54, (⟨"MulePostBishops", "at", "([II)I"⟩, "MulePostBishops"))), ("MulePostBishops$Board", (50, (⟨"MulePostBishops", "put", "([III)V"⟩, "MulePostBishops"))), ("MulePostBishops$Passes", (38, (⟨"MulePostBishops", "put", "([III)V"⟩, "MulePostBishops"))), ("MulePostBishops$Passes", (42, (⟨"MulePostBishops", "at", "([II)I"⟩, "MulePostBishops"))), ("MulePostBishops$Board", (46, (⟨"MulePostBishops", "copyRow", "([I[I)V"⟩, "MulePostBishops"))), ("MulePostBishops$Desk", (64, (⟨"MulePostBishops", "copyRow", "([I[I)V"⟩, "MulePostBishops"))), ("MulePostBishops$Passes", (34, (⟨"MulePostBishops", "copyRow", "([I[I)V"⟩, "MulePostBishops"))), ("MulePostBishops$Post", (81, (⟨"MulePostBishops", "copyRow", "([I[I)V"⟩, "MulePostBishops"))), ("MulePostBishopsLaw", (395, (⟨"MulePostBishopsLaw$Own", "<init>", "()V"⟩, "MulePostBishopsLaw"))), ("MulePostBishopsLaw$Own", (9, (⟨"MulePostBishopsLaw$Board", "<init>", "()V"⟩, "MulePostBishopsLaw"))), ("MulePostBishops$Desk", (76, (⟨"MulePostBishops", "moverOf", "(I)I"⟩, "MulePostBishops"))), ("MulePostBishops$Post", (85, (⟨"MulePostBishops", "at", "([II)I"⟩, "MulePostBishops"))), ("MulePostBishops$Post", (97, (⟨"MulePostBishops", "monthOf", "(I)I"⟩, "MulePostBishops"))), ("MulePostBishops$Post", (89, (⟨"MulePostBishops", "put", "([III)V"⟩, "MulePostBishops"))), ("MulePostBishops$Desk", (80, (⟨"MulePostBishops", "at", "([II)I"⟩, "MulePostBishops"))), ("MulePostBishops$Desk", (84, (⟨"MulePostBishops", "put", "([III)V"⟩, "MulePostBishops"))), ("MulePostBishops$Board", (74, (⟨"MulePostBishops", "startOf", "(I)I"⟩, "MulePostBishops"))), ("MulePostBishops$Board", (77, (⟨"MulePostBishops", "endOf", "(I)I"⟩, "MulePostBishops"))), ("MulePostBishops$Game", (113, (⟨"MulePostBishops", "isPlayer", "(I)Z"⟩, "MulePostBishops"))), ("MulePostBishops$Game", (137, (⟨"MulePostBishops", "moveOf", "(II)I"⟩, "MulePostBishops"))), ("MulePostBishopsLaw", (306, (⟨"MulePostBishopsLaw$Board", "<init>", "()V"⟩, "MulePostBishopsLaw"))), ("MulePostBishops$Game", (189, (⟨"MulePostBishops", "isMonth", "(I)Z"⟩, "MulePostBishops")))]
/-- the nest mates' fields: by whom, at which entry, whose, name, kind, in whose nest -/
def ev_fe : List (String × (Nat × (String × (String × (String × String))))) := [("MulePostBishopsLaw", (49, ("MulePostBishopsLaw$Board", ("owner", ("[I", "MulePostBishopsLaw"))))), ("MulePostBishopsLaw$Own", (139, ("MulePostBishopsLaw$Board", ("owner", ("[I", "MulePostBishopsLaw"))))), ("MulePostBishopsLaw$Own", (134, ("MulePostBishopsLaw$Board", ("from", ("[I", "MulePostBishopsLaw"))))), ("MulePostBishopsLaw", (67, ("MulePostBishopsLaw$Board", ("from", ("[I", "MulePostBishopsLaw"))))), ("MulePostBishopsLaw$Own", (135, ("MulePostBishopsLaw$Board", ("to", ("[I", "MulePostBishopsLaw"))))), ("MulePostBishopsLaw", (73, ("MulePostBishopsLaw$Board", ("to", ("[I", "MulePostBishopsLaw"))))), ("MulePostBishopsLaw", (58, ("MulePostBishopsLaw$Board", ("storedFrom", ("[I", "MulePostBishopsLaw"))))), ("MulePostBishopsLaw$Own", (160, ("MulePostBishopsLaw$Board", ("storedFrom", ("[I", "MulePostBishopsLaw"))))), ("MulePostBishopsLaw$Own", (163, ("MulePostBishopsLaw$Board", ("storedTo", ("[I", "MulePostBishopsLaw"))))), ("MulePostBishopsLaw$Own", (136, ("MulePostBishopsLaw$Board", ("isCapture", ("[Z", "MulePostBishopsLaw"))))), ("MulePostBishopsLaw$Own", (127, ("MulePostBishopsLaw$Board", ("made", ("I", "MulePostBishopsLaw"))))), ("MulePostBishopsLaw", (61, ("MulePostBishopsLaw$Board", ("made", ("I", "MulePostBishopsLaw"))))), ("MulePostBishopsLaw$Own", (142, ("MulePostBishopsLaw$Board", ("lastOwn", ("I", "MulePostBishopsLaw"))))), ("MulePostBishopsLaw$Own", (145, ("MulePostBishopsLaw$Board", ("longest", ("I", "MulePostBishopsLaw"))))), ("MulePostBishopsLaw", (122, ("MulePostBishopsLaw$Board", ("longest", ("I", "MulePostBishopsLaw"))))), ("MulePostBishopsLaw$Own", (154, ("MulePostBishopsLaw$Board", ("waited", ("I", "MulePostBishopsLaw"))))), ("MulePostBishopsLaw", (132, ("MulePostBishopsLaw$Board", ("waited", ("I", "MulePostBishopsLaw"))))), ("MulePostBishopsLaw$Own", (157, ("MulePostBishopsLaw$Board", ("waits", ("I", "MulePostBishopsLaw"))))), ("MulePostBishopsLaw", (129, ("MulePostBishopsLaw$Board", ("waits", ("I", "MulePostBishopsLaw"))))), ("MulePostBishopsLaw", (116, ("MulePostBishopsLaw$Board", ("kept", ("I", "MulePostBishopsLaw"))))), ("MulePostBishopsLaw$Own", (170, ("MulePostBishopsLaw$Board", ("kept", ("I", "MulePostBishopsLaw"))))), ("MulePostBishopsLaw", (41, ("MulePostBishopsLaw$Own", ("size", ("I", "MulePostBishopsLaw"))))), ("MulePostBishopsLaw", (55, ("MulePostBishopsLaw$Own", ("limit", ("I", "MulePostBishopsLaw"))))), ("MulePostBishopsLaw", (202, ("MulePostBishopsLaw$Own", ("day", ("I", "MulePostBishopsLaw"))))), ("MulePostBishopsLaw", (139, ("MulePostBishopsLaw$Own", ("passes", ("I", "MulePostBishopsLaw"))))), ("MulePostBishopsLaw", (169, ("MulePostBishopsLaw$Own", ("letters", ("I", "MulePostBishopsLaw"))))), ("MulePostBishopsLaw", (224, ("MulePostBishopsLaw$Own", ("duplicates", ("I", "MulePostBishopsLaw"))))), ("MulePostBishopsLaw", (243, ("MulePostBishopsLaw$Own", ("travel", ("I", "MulePostBishopsLaw"))))), ("MulePostBishopsLaw", (240, ("MulePostBishopsLaw$Own", ("arrived", ("I", "MulePostBishopsLaw"))))), ("MulePostBishopsLaw", (369, ("MulePostBishopsLaw$Own", ("bishops", ("I", "MulePostBishopsLaw"))))), ("MulePostBishopsLaw", (344, ("MulePostBishopsLaw$Own", ("mules", ("I", "MulePostBishopsLaw"))))), ("MulePostBishopsLaw", (35, ("MulePostBishopsLaw$Own", ("board", ("[LMulePostBishopsLaw$Board;", "MulePostBishopsLaw"))))), ("MulePostBishopsLaw", (154, ("MulePostBishopsLaw$Own", ("base", ("[I", "MulePostBishopsLaw"))))), ("MulePostBishopsLaw", (160, ("MulePostBishopsLaw$Own", ("stable", ("[I", "MulePostBishopsLaw"))))), ("MulePostBishopsLaw", (145, ("MulePostBishopsLaw$Own", ("snow", ("[I", "MulePostBishopsLaw"))))), ("MulePostBishopsLaw", (175, ("MulePostBishopsLaw$Own", ("by", ("[I", "MulePostBishopsLaw"))))), ("MulePostBishopsLaw", (181, ("MulePostBishopsLaw$Own", ("number", ("[I", "MulePostBishopsLaw"))))), ("MulePostBishopsLaw", (339, ("MulePostBishopsLaw$Own", ("from", ("[I", "MulePostBishopsLaw"))))), ("MulePostBishopsLaw", (340, ("MulePostBishopsLaw$Own", ("to", ("[I", "MulePostBishopsLaw"))))), ("MulePostBishopsLaw", (90, ("MulePostBishopsLaw$Own", ("state", ("[I", "MulePostBishopsLaw"))))), ("MulePostBishopsLaw", (187, ("MulePostBishopsLaw$Own", ("isPromise", ("[Z", "MulePostBishopsLaw"))))), ("MulePostBishopsLaw", (303, ("MulePostBishopsLaw$Own", ("isWritten", ("[Z", "MulePostBishopsLaw"))))), ("MulePostBishopsLaw", (311, ("MulePostBishopsLaw$Own", ("expectFrom", ("[I", "MulePostBishopsLaw"))))), ("MulePostBishopsLaw", (314, ("MulePostBishopsLaw$Own", ("expectTo", ("[I", "MulePostBishopsLaw"))))), ("MulePostBishopsLaw", (317, ("MulePostBishopsLaw$Own", ("replyFrom", ("[I", "MulePostBishopsLaw"))))), ("MulePostBishopsLaw", (320, ("MulePostBishopsLaw$Own", ("replyTo", ("[I", "MulePostBishopsLaw"))))), ("MulePostBishopsLaw", (414, ("MulePostBishopsLaw$Own", ("isLeft", ("Z", "MulePostBishopsLaw")))))]
/-- a literal: who loads it, at which entry, its text, its number -/
def ev_st : List (String × (Nat × (String × Nat))) := [("MulePostBishops", (57, ("game 6 40; bishop 0 0 1; bishop 0 0 4; bishop 0 1 0; bishop 1 5 1; bishop 1 5 4; bishop 1 4 5; pass 3 1 1; pass 5 2 0; snow 0 0 4; snow 0 1 9; snow 1 1 2;", 0))), ("MulePostBishops", (411, ("game", 1))), ("MulePostBishops", (425, ("bishop", 2))), ("MulePostBishops", (434, ("pass", 3))), ("MulePostBishops", (445, ("snow", 4))), ("MulePostBishops", (360, ("no change can be undone", 5))), ("MulePostBishops", (379, ("there is no such thing", 6))), ("MulePostBishops", (389, ("no move with this number was applied", 7))), ("MulePostBishops", (382, ("this is not possible now", 8))), ("MulePostBishops", (384, ("this is not allowed", 9))), ("MulePostBishopsLaw", (358, ("game ", 10))), ("MulePostBishopsLaw", (371, ("bishop ", 11))), ("MulePostBishopsLaw", (376, ("pass ", 12))), ("MulePostBishopsLaw", (378, ("snow ", 13))), ("MulePostBishops", (90, ("the text buffer would hold more than 800 bytes", 14)))]
/-- lengths and bytes of the literals -/
def ev_le : List Nat := [154, 4, 6, 4, 4, 23, 22, 36, 24, 19, 5, 7, 5, 5, 46]
def ev_bt : List (List Int32) := [[103, 97, 109, 101, 32, 54, 32, 52, 48, 59, 32, 98, 105, 115, 104, 111, 112, 32, 48, 32, 48, 32, 49, 59, 32, 98, 105, 115, 104, 111, 112, 32, 48, 32, 48, 32, 52, 59, 32, 98, 105, 115, 104, 111, 112, 32, 48, 32, 49, 32, 48, 59, 32, 98, 105, 115, 104, 111, 112, 32, 49, 32, 53, 32, 49, 59, 32, 98, 105, 115, 104, 111, 112, 32, 49, 32, 53, 32, 52, 59, 32, 98, 105, 115, 104, 111, 112, 32, 49, 32, 52, 32, 53, 59, 32, 112, 97, 115, 115, 32, 51, 32, 49, 32, 49, 59, 32, 112, 97, 115, 115, 32, 53, 32, 50, 32, 48, 59, 32, 115, 110, 111, 119, 32, 48, 32, 48, 32, 52, 59, 32, 115, 110, 111, 119, 32, 48, 32, 49, 32, 57, 59, 32, 115, 110, 111, 119, 32, 49, 32, 49, 32, 50, 59], [103, 97, 109, 101], [98, 105, 115, 104, 111, 112], [112, 97, 115, 115], [115, 110, 111, 119], [110, 111, 32, 99, 104, 97, 110, 103, 101, 32, 99, 97, 110, 32, 98, 101, 32, 117, 110, 100, 111, 110, 101], [116, 104, 101, 114, 101, 32, 105, 115, 32, 110, 111, 32, 115, 117, 99, 104, 32, 116, 104, 105, 110, 103], [110, 111, 32, 109, 111, 118, 101, 32, 119, 105, 116, 104, 32, 116, 104, 105, 115, 32, 110, 117, 109, 98, 101, 114, 32, 119, 97, 115, 32, 97, 112, 112, 108, 105, 101, 100], [116, 104, 105, 115, 32, 105, 115, 32, 110, 111, 116, 32, 112, 111, 115, 115, 105, 98, 108, 101, 32, 110, 111, 119], [116, 104, 105, 115, 32, 105, 115, 32, 110, 111, 116, 32, 97, 108, 108, 111, 119, 101, 100], [103, 97, 109, 101, 32], [98, 105, 115, 104, 111, 112, 32], [112, 97, 115, 115, 32], [115, 110, 111, 119, 32], [116, 104, 101, 32, 116, 101, 120, 116, 32, 98, 117, 102, 102, 101, 114, 32, 119, 111, 117, 108, 100, 32, 104, 111, 108, 100, 32, 109, 111, 114, 101, 32, 116, 104, 97, 110, 32, 56, 48, 48, 32, 98, 121, 116, 101, 115]]
/-- exceptions, by number: their names -/
def ev_ex (k : Nat) : String := match k with
  | 0 => "java/lang/IndexOutOfBoundsException"
  | 1 => "java/lang/IllegalStateException"
  | 2 => "java/lang/IllegalArgumentException"
  | _ => "java/util/NoSuchElementException"
def ev_nc : List (Nat × Nat) := []
/-- words of the tables that stay though a link is made: declares, castable, privateMethod -/
def ev_isow (w : Cond) : Bool := match w with
  | .declares _ => true
  | .castable _ _ => true
  | .privateMethod _ => true
  | _ => false
theorem ev_pv_setVm {u : State} {vm' : Vm} {y : MethodName} (hal : u.vm.Alike vm') (h : (Cond.privateMethod y).before #[] u = true) : (Cond.privateMethod y).before #[] (u.setVm vm') = true := by
  have e1 : (u.setVm vm').methodNamed? y = u.methodNamed? y := State.methodNamed?_setVm hal y
  have e2 : (u.setVm vm').vm.method? = u.vm.method? := funext hal.method?
  simp only [Cond.before, Cond.holds, Cond.value] at h ⊢
  rw [e1, e2]; exact h
def ev_ow : List Cond := lw_tbl.filter ev_isow
theorem ev_ow_tab {w : Cond} (hw : ev_isow w = true) : w.onTables = true := by
  cases w <;> first | rfl | cases hw
theorem ev_ow_moved {w : Cond} (hw : ev_isow w = true) {u U : State} (hvm : u.vm.Alike U.vm) (h : va_Nw w u) : va_Nw w U := by
  have h1 : w.before #[] (u.setVm U.vm) = true := by
    cases w <;> first | (rw [Cond.declares_setVm hvm]; exact h) | (rw [Cond.castable_setVm hvm]; exact h) | exact ev_pv_setVm hvm h | cases hw
  have e := Cond.onTables_vm (A := #[]) (A' := #[]) (U := u) (U' := U) U.vm w (ev_ow_tab hw)
  have hU : U.setVm U.vm = U := rfl
  rw [hU] at e
  show w.before #[] U = true
  rw [← e]
  exact h1
/-- the digits' rows -/
def ev_g1 (j : Nat) : Int32 := Int32.ofNat (48 + j % 10)
def ev_g2 (j : Nat) : Int32 := Int32.ofNat (48 + j / 10)
def ev_J (g : ev_G) (U : State) (H : Heap) : Prop :=
  ((∀ q ∈ ev_ne, va_Nw (.methodLinkNest q.1 q.2.1 q.2.2.1 q.2.2.2) U) ∧ (∀ q ∈ ev_st, vk_R q.1 q.2.1 q.2.2.1 (ev_aK g q.2.2.2) U) ∧ (∀ q ∈ ev_nc, va_Nc (ev_ex q.1) (ev_ex q.2) U) ∧ (∀ w ∈ ev_ow, va_Nw w U) ∧ (∀ q ∈ ev_fe, va_Nw (.fieldLinkNest q.1 q.2.1 q.2.2.1 q.2.2.2.1 q.2.2.2.2.1 q.2.2.2.2.2) U) ∧ (va_AO "MulePostBishops$Game" U ∧ va_AO "MulePostBishopsLaw$Own" U ∧ va_AO "MulePostBishopsLaw$Board" U)) ∧
  (vx_Zq Bundle.tN "UNASSIGNED_STACK" Bundle.steD (ev_A g) U H ∧ vx_Zq Bundle.tN "SUPPRESSED_SENTINEL" Bundle.listD (ev_A g) U H) ∧
  va_Z "java/lang/String" "COMPACT_STRINGS" "Z" (.int 1) (ev_A g) U H ∧ va_Z "jdk/internal/util/Preconditions" "SIOOBE_FORMATTER" "Ljava/util/function/BiFunction;" (ev_fm g) (ev_A g) U H ∧
  (∀ i : Nat, i < 15 → va_O "java/lang/String" (ev_aK g i) (ev_A g) U H ∧ va_OF "java/lang/String" "coder" "B" (.int 0) (ev_aK g i) (ev_A g) U H ∧ va_OF "java/lang/String" "value" "[B" (.ref (ev_aV g i)) (ev_aK g i) (ev_A g) U H ∧ va_T .byte (ev_aV g i) (ev_le.getD i 0) (fun j => .int ((ev_bt.getD i []).getD j 0)) (ev_A g) U H) ∧
  va_X (ev_sb g) (ev_sl g) (ev_sx g) U H ∧ ¬ ev_A g (ev_sb g) ∧ (ev_fm g).category = 1 ∧ (va_Z "java/lang/Integer" "DigitOnes" "[B" (.ref (ev_d1 g)) (ev_A g) U H ∧ va_Z "java/lang/Integer" "DigitTens" "[B" (.ref (ev_d2 g)) (ev_A g) U H ∧ va_T .byte (ev_d1 g) 100 (fun j => .int (ev_g1 j)) (ev_A g) U H ∧ va_T .byte (ev_d2 g) 100 (fun j => .int (ev_g2 j)) (ev_A g) U H)
/-- the world at a heap -/
def ev_W (g : ev_G) (S : ev_S) (U : State) (H : Heap) : Prop :=
  ev_b g ≤ H.size ∧ va_P (ev_D g) ev_cl (ev_ws g S) H ∧ va_K (ev_D g) ev_cl (ev_ty g) U ∧ ev_J g U H
def ev_Qc (g : ev_G) (Λ : ev_Y) (Q : ev_O → ev_S → Prop) : Array Value → State → Outcome → State → Prop := fun _ st o t =>
  ∃ (ov : Option ev_V) (S' : ev_S), o = .returned (ov.map (ev_c g)) ∧ (∀ v, ov = some v → ev_ok g S'.2.1 v) ∧ Q (.inl ov) S' ∧ va_P (ev_D g) ev_cl (ev_ws g S') t.heap ∧ va_F (ev_A g) st t ∧ Λ <:+ S'.2.1 ∧ ev_lw g S'.2.1
def ev_XC (g : ev_G) (Λ : ev_Y) (Q : ev_O → ev_S → Prop) : String → State → State → Prop := fun E st t =>
  ∃ (k : Nat) (S' : ev_S), E = ev_ex k ∧ k < 4 ∧ Q (.inr k) S' ∧ va_P (ev_D g) ev_cl (ev_ws g S') t.heap ∧ va_F (ev_A g) st t ∧ Λ <:+ S'.2.1 ∧ ev_lw g S'.2.1
/-- what holds in a frame of method μ: d calls may stand above it, B things may still be made; Λ: the trees at its entry -/
def ev_X (g : ev_G) (μ : ev_M) (d B : Nat) (S : ev_S) (l : Launch) (p : Program) (R : Room) (s : State) (m : MethodId) (args : Array Value) (meth : Method) (c : Code) (H : Heap) (locs : List Loc) (cells slots mc ms : Nat) (Λ : ev_Y) : Prop :=
  (p.tables.exec = Jvm.exec ∧ c.code = ev_by μ ∧ meth.sig.returnType = ev_rt μ ∧ c.maxLocals = ev_ml μ ∧ s.vm.findClass (ev_own μ) = some m.cls ∧ meth.locks = false ∧ c.exceptionTable.toList = tableOf (ev_hh μ) ∧ l.stackTraces = false) ∧
  ((∀ w ∈ ev_gw, w.before args s = true) ∧ va_K (ev_D g) ev_cl (ev_ty g) s ∧ ev_J g s s.heap ∧ ev_b g ≤ s.heap.size) ∧
  (d + 6 ≤ R.frames ∧ 30 * d + 300 ≤ R.locals ∧ mc ≤ R.cells ∧ ms ≤ R.slots ∧ cells + B ≤ mc ∧ slots + 6 * B ≤ ms ∧ Λ <:+ S.2.1 ∧ ev_lw g S.2.1 ∧ meth.name = (ev_mn μ).name) ∧
  (va_P (ev_D g) ev_cl (ev_ws g S) H ∧ va_S (ev_A g) s.heap H locs)
def ev_L (g : ev_G) (Λ : ev_Y) (L : List (Option ev_V)) (ls : Array Slot) : Prop :=
  ls.size = L.length ∧ lv_wf ls ∧ ∀ (i : Nat) (v : ev_V), L[i]? = some (some v) → ls[i]? = some (.val (ev_c g v)) ∧ ev_ok g Λ v
section EvXs
variable {g : ev_G} {μ : ev_M} {d B : Nat} {S : ev_S} {l : Launch} {p : Program} {R : Room} {s : State} {m : MethodId} {args : Array Value} {meth : Method} {c : Code} {H : Heap} {locs : List Loc} {cells slots mc ms : Nat} {Λ : ev_Y}
theorem ev_X.lw (X : ev_X g μ d B S l p R s m args meth c H locs cells slots mc ms Λ) : ev_lw g S.2.1 := X.2.2.1.2.2.2.2.2.2.2.1
theorem ev_X.nm (X : ev_X g μ d B S l p R s m args meth c H locs cells slots mc ms Λ) : meth.name = (ev_mn μ).name := X.2.2.1.2.2.2.2.2.2.2.2
theorem ev_X.sx (X : ev_X g μ d B S l p R s m args meth c H locs cells slots mc ms Λ) : Λ <:+ S.2.1 := X.2.2.1.2.2.2.2.2.2.1
theorem ev_X.rm (X : ev_X g μ d B S l p R s m args meth c H locs cells slots mc ms Λ) : d + 6 ≤ R.frames ∧ 30 * d + 300 ≤ R.locals ∧ mc ≤ R.cells ∧ ms ≤ R.slots ∧ cells + B ≤ mc ∧ slots + 6 * B ≤ ms :=
  ⟨X.2.2.1.1, X.2.2.1.2.1, X.2.2.1.2.2.1, X.2.2.1.2.2.2.1, X.2.2.1.2.2.2.2.1, X.2.2.1.2.2.2.2.2.1⟩
end EvXs
def ev_E (g : ev_G) (μ : ev_M) (d B pc : Nat) (L : List (Option ev_V)) (K : List ev_V) (S : ev_S) (Q : ev_O → ev_S → Prop) : Prop :=
  ∀ (l : Launch) (p : Program) (e : Env) (R : Room) (s : State) (m : MethodId) (args : Array Value) (below : List Frame) (meth : Method) (c : Code) (H : Heap) (locs : List Loc) (cells slots mc ms : Nat) (Λ : ev_Y) (ls : Array Slot),
    ev_X g μ d B S l p R s m args meth c H locs cells slots mc ms Λ → ev_L g S.2.1 L ls → ls.size = ev_ml μ → (∀ v ∈ K, ev_ok g S.2.1 v) →
    W p l e R s m args below meth c H locs cells slots (vx_MQ below (ev_Qc g Λ Q) (ev_XC g Λ Q) args s mc ms (ev_A g)) (F0 m pc ls (K.map (ev_c g)))
theorem ev_E.mono {g : ev_G} {μ : ev_M} {d B pc : Nat} {L : List (Option ev_V)} {K : List ev_V} {S : ev_S} {Q Q' : ev_O → ev_S → Prop} (hQ : ∀ o S', Q o S' → Q' o S') (h : ev_E g μ d B pc L K S Q) : ev_E g μ d B pc L K S Q' := by
  intro l p e R s m args below meth c H locs cells slots mc ms Λ ls X hL hz hK T hT Y
  obtain ⟨t, a1, o, b1, b2, b3⟩ := h l p e R s m args below meth c H locs cells slots mc ms Λ ls X hL hz hK T hT Y
  refine ⟨t, a1, o, b1, b2, ?_⟩
  rcases b3 with ⟨⟨ov, S', c1, c2, c3, c4⟩, b4⟩ | ⟨q, e1, E, ce, L', ⟨k, S', c1, c2, c3, c4⟩, e2⟩
  · exact Or.inl ⟨⟨ov, S', c1, c2, hQ _ _ c3, c4⟩, b4⟩
  · exact Or.inr ⟨q, e1, E, ce, L', ⟨k, S', c1, c2, hQ _ _ c3, c4⟩, e2⟩
theorem ev_E.goal {g : ev_G} {μ : ev_M} {d B pc : Nat} {L : List (Option ev_V)} {K : List ev_V} {S : ev_S} {Q : ev_O → ev_S → Prop} {L' : List (Option ev_V)} {K' : List ev_V} {S' : ev_S} {pc' : Nat} (h : ev_E g μ d B pc' L' K' S' Q) (h1 : pc' = pc := by rfl) (h2 : L' = L := by rfl) (h3 : K' = K := by rfl) (h4 : S' = S := by rfl) : ev_E g μ d B pc L K S Q := by
  subst h1 h2 h3 h4; exact h
/-- some of the locals are forgotten -/
theorem ev_forget {g : ev_G} {μ : ev_M} {d B pc : Nat} {L L' : List (Option ev_V)} {K : List ev_V} {S : ev_S} {Q : ev_O → ev_S → Prop} (h : ∀ (i : Nat) (v : ev_V), L'[i]? = some (some v) → L[i]? = some (some v)) (hl : L'.length = L.length) (kk : ev_E g μ d B pc L' K S Q) : ev_E g μ d B pc L K S Q := by
  intro l p e R s m args below meth c H locs cells slots mc ms Λ ls X hL hz hK
  exact kk l p e R s m args below meth c H locs cells slots mc ms Λ ls X ⟨hL.1.trans hl.symm, hL.2.1, fun i v hi => hL.2.2 i v (h i v hi)⟩ hz hK
/-- the remainder -/
def ev_rem (x y : Int32) : Int32 := x - x / y * y
section EvRows
variable {g : ev_G} {μ : ev_M} {d B pc : Nat} {L : List (Option ev_V)} {K : List ev_V} {S : ev_S} {Q : ev_O → ev_S → Prop}
theorem ev_iconst {n : Int} (x : Int32) (h : decode (ev_by μ) pc = .ok (.iconst n, 1)) (hv : Int32.ofInt n = x) (kk : ev_E g μ d B (pc + 1) L (ev_i x :: K) S Q) : ev_E g μ d B pc L K S Q := by
  intro l p e R s m args below meth c H locs cells slots mc ms Λ ls X hL hz hK
  exact lv_iconst X.1.1 X.1.2.1 h hv (kk l p e R s m args below meth c H locs cells slots mc ms Λ ls X hL hz (List.forall_mem_cons.mpr ⟨trivial, hK⟩))
theorem ev_bipush {n : Int} (x : Int32) (h : decode (ev_by μ) pc = .ok (.bipush n, 2)) (hv : (Int8.ofInt n).toInt32 = x) (kk : ev_E g μ d B (pc + 2) L (ev_i x :: K) S Q) : ev_E g μ d B pc L K S Q := by
  intro l p e R s m args below meth c H locs cells slots mc ms Λ ls X hL hz hK
  exact lv_bipush X.1.1 X.1.2.1 h hv (kk l p e R s m args below meth c H locs cells slots mc ms Λ ls X hL hz (List.forall_mem_cons.mpr ⟨trivial, hK⟩))
theorem ev_sipush {n : Int} (x : Int32) (h : decode (ev_by μ) pc = .ok (.sipush n, 3)) (hv : (Int16.ofInt n).toInt32 = x) (kk : ev_E g μ d B (pc + 3) L (ev_i x :: K) S Q) : ev_E g μ d B pc L K S Q := by
  intro l p e R s m args below meth c H locs cells slots mc ms Λ ls X hL hz hK
  exact lv_sipush X.1.1 X.1.2.1 h hv (kk l p e R s m args below meth c H locs cells slots mc ms Λ ls X hL hz (List.forall_mem_cons.mpr ⟨trivial, hK⟩))
theorem ev_lconst {n : Fin 2} (x : Int64) (h : decode (ev_by μ) pc = .ok (.lconst n, 1)) (hv : Int64.ofNat (n : Nat) = x) (kk : ev_E g μ d B (pc + 1) L (ev_l x :: K) S Q) : ev_E g μ d B pc L K S Q := by
  intro l p e R s m args below meth c H locs cells slots mc ms Λ ls X hL hz hK
  exact lv_lconst X.1.1 X.1.2.1 h hv (kk l p e R s m args below meth c H locs cells slots mc ms Λ ls X hL hz (List.forall_mem_cons.mpr ⟨trivial, hK⟩))
theorem ev_fconst0 (h : decode (ev_by μ) pc = .ok (.fconst 0, 1)) (kk : ev_E g μ d B (pc + 1) L (ev_f 0 :: K) S Q) : ev_E g μ d B pc L K S Q := by
  intro l p e R s m args below meth c H locs cells slots mc ms Λ ls X hL hz hK
  exact lv_fconst0 X.1.1 X.1.2.1 h (kk l p e R s m args below meth c H locs cells slots mc ms Λ ls X hL hz (List.forall_mem_cons.mpr ⟨trivial, hK⟩))
theorem ev_dconst0 (h : decode (ev_by μ) pc = .ok (.dconst 0, 1)) (kk : ev_E g μ d B (pc + 1) L (ev_d 0 :: K) S Q) : ev_E g μ d B pc L K S Q := by
  intro l p e R s m args below meth c H locs cells slots mc ms Λ ls X hL hz hK
  exact lv_dconst0 X.1.1 X.1.2.1 h (kk l p e R s m args below meth c H locs cells slots mc ms Λ ls X hL hz (List.forall_mem_cons.mpr ⟨trivial, hK⟩))
theorem ev_iadd {x y : Int32} (h : decode (ev_by μ) pc = .ok (.iadd, 1)) (kk : ev_E g μ d B (pc + 1) L (ev_i (x + y) :: K) S Q) : ev_E g μ d B pc L (ev_i y :: ev_i x :: K) S Q := by
  intro l p e R s m args below meth c H locs cells slots mc ms Λ ls X hL hz hK
  exact lv_iadd X.1.1 X.1.2.1 h (kk l p e R s m args below meth c H locs cells slots mc ms Λ ls X hL hz (List.forall_mem_cons.mpr ⟨trivial, fun v hv => hK v (List.mem_cons_of_mem _ (List.mem_cons_of_mem _ hv))⟩))
theorem ev_isub {x y : Int32} (h : decode (ev_by μ) pc = .ok (.isub, 1)) (kk : ev_E g μ d B (pc + 1) L (ev_i (x - y) :: K) S Q) : ev_E g μ d B pc L (ev_i y :: ev_i x :: K) S Q := by
  intro l p e R s m args below meth c H locs cells slots mc ms Λ ls X hL hz hK
  exact lv_isub X.1.1 X.1.2.1 h (kk l p e R s m args below meth c H locs cells slots mc ms Λ ls X hL hz (List.forall_mem_cons.mpr ⟨trivial, fun v hv => hK v (List.mem_cons_of_mem _ (List.mem_cons_of_mem _ hv))⟩))
theorem ev_imul {x y : Int32} (h : decode (ev_by μ) pc = .ok (.imul, 1)) (kk : ev_E g μ d B (pc + 1) L (ev_i (x * y) :: K) S Q) : ev_E g μ d B pc L (ev_i y :: ev_i x :: K) S Q := by
  intro l p e R s m args below meth c H locs cells slots mc ms Λ ls X hL hz hK
  exact lv_imul X.1.1 X.1.2.1 h (kk l p e R s m args below meth c H locs cells slots mc ms Λ ls X hL hz (List.forall_mem_cons.mpr ⟨trivial, fun v hv => hK v (List.mem_cons_of_mem _ (List.mem_cons_of_mem _ hv))⟩))
theorem ev_iand {x y : Int32} (h : decode (ev_by μ) pc = .ok (.iand, 1)) (kk : ev_E g μ d B (pc + 1) L (ev_i (x &&& y) :: K) S Q) : ev_E g μ d B pc L (ev_i y :: ev_i x :: K) S Q := by
  intro l p e R s m args below meth c H locs cells slots mc ms Λ ls X hL hz hK
  exact lv_iand X.1.1 X.1.2.1 h (kk l p e R s m args below meth c H locs cells slots mc ms Λ ls X hL hz (List.forall_mem_cons.mpr ⟨trivial, fun v hv => hK v (List.mem_cons_of_mem _ (List.mem_cons_of_mem _ hv))⟩))
theorem ev_idiv {x y : Int32} (h : decode (ev_by μ) pc = .ok (.idiv, 1)) (hne : ¬ y = 0) (kk : ev_E g μ d B (pc + 1) L (ev_i (x / y) :: K) S Q) : ev_E g μ d B pc L (ev_i y :: ev_i x :: K) S Q := by
  intro l p e R s m args below meth c H locs cells slots mc ms Λ ls X hL hz hK
  exact lv_idiv X.1.1 X.1.2.1 h hne (kk l p e R s m args below meth c H locs cells slots mc ms Λ ls X hL hz (List.forall_mem_cons.mpr ⟨trivial, fun v hv => hK v (List.mem_cons_of_mem _ (List.mem_cons_of_mem _ hv))⟩))
theorem ev_irem {x y : Int32} (h : decode (ev_by μ) pc = .ok (.irem, 1)) (hne : ¬ y = 0) (kk : ev_E g μ d B (pc + 1) L (ev_i (ev_rem x y) :: K) S Q) : ev_E g μ d B pc L (ev_i y :: ev_i x :: K) S Q := by
  intro l p e R s m args below meth c H locs cells slots mc ms Λ ls X hL hz hK
  exact lv_irem X.1.1 X.1.2.1 h hne (kk l p e R s m args below meth c H locs cells slots mc ms Λ ls X hL hz (List.forall_mem_cons.mpr ⟨trivial, fun v hv => hK v (List.mem_cons_of_mem _ (List.mem_cons_of_mem _ hv))⟩))
theorem ev_ineg {x : Int32} (h : decode (ev_by μ) pc = .ok (.ineg, 1)) (kk : ev_E g μ d B (pc + 1) L (ev_i (-x) :: K) S Q) : ev_E g μ d B pc L (ev_i x :: K) S Q := by
  intro l p e R s m args below meth c H locs cells slots mc ms Λ ls X hL hz hK
  exact lv_ineg X.1.1 X.1.2.1 h (kk l p e R s m args below meth c H locs cells slots mc ms Λ ls X hL hz (List.forall_mem_cons.mpr ⟨trivial, fun v hv => hK v (List.mem_cons_of_mem _ hv)⟩))
theorem ev_i2l {x : Int32} (h : decode (ev_by μ) pc = .ok (.i2l, 1)) (kk : ev_E g μ d B (pc + 1) L (ev_l x.toInt64 :: K) S Q) : ev_E g μ d B pc L (ev_i x :: K) S Q := by
  intro l p e R s m args below meth c H locs cells slots mc ms Λ ls X hL hz hK
  exact lv_i2l X.1.1 X.1.2.1 h rfl (kk l p e R s m args below meth c H locs cells slots mc ms Λ ls X hL hz (List.forall_mem_cons.mpr ⟨trivial, fun v hv => hK v (List.mem_cons_of_mem _ hv)⟩))
theorem ev_i2f {x : Int32} (h : decode (ev_by μ) pc = .ok (.i2f, 1)) (kk : ev_E g μ d B (pc + 1) L (ev_f (FP.i2f x) :: K) S Q) : ev_E g μ d B pc L (ev_i x :: K) S Q := by
  intro l p e R s m args below meth c H locs cells slots mc ms Λ ls X hL hz hK
  exact lv_i2f X.1.1 X.1.2.1 h (kk l p e R s m args below meth c H locs cells slots mc ms Λ ls X hL hz (List.forall_mem_cons.mpr ⟨trivial, fun v hv => hK v (List.mem_cons_of_mem _ hv)⟩))
theorem ev_i2d {x : Int32} (h : decode (ev_by μ) pc = .ok (.i2d, 1)) (kk : ev_E g μ d B (pc + 1) L (ev_d (FP.i2d x) :: K) S Q) : ev_E g μ d B pc L (ev_i x :: K) S Q := by
  intro l p e R s m args below meth c H locs cells slots mc ms Λ ls X hL hz hK
  exact lv_i2d X.1.1 X.1.2.1 h (kk l p e R s m args below meth c H locs cells slots mc ms Λ ls X hL hz (List.forall_mem_cons.mpr ⟨trivial, fun v hv => hK v (List.mem_cons_of_mem _ hv)⟩))
theorem ev_f2d {x : UInt32} (h : decode (ev_by μ) pc = .ok (.f2d, 1)) (hne : vf_n64 (FP.f2d x)) (kk : ev_E g μ d B (pc + 1) L (ev_d (FP.f2d x) :: K) S Q) : ev_E g μ d B pc L (ev_f x :: K) S Q := by
  intro l p e R s m args below meth c H locs cells slots mc ms Λ ls X hL hz hK
  exact lv_f2d X.1.1 X.1.2.1 h hne (kk l p e R s m args below meth c H locs cells slots mc ms Λ ls X hL hz (List.forall_mem_cons.mpr ⟨trivial, fun v hv => hK v (List.mem_cons_of_mem _ hv)⟩))
theorem ev_fdiv {x y : UInt32} (h : decode (ev_by μ) pc = .ok (.fdiv, 1)) (hne : vf_n32 (FP.fdiv x y)) (kk : ev_E g μ d B (pc + 1) L (ev_f (FP.fdiv x y) :: K) S Q) : ev_E g μ d B pc L (ev_f y :: ev_f x :: K) S Q := by
  intro l p e R s m args below meth c H locs cells slots mc ms Λ ls X hL hz hK
  exact lv_fdiv X.1.1 X.1.2.1 h hne (kk l p e R s m args below meth c H locs cells slots mc ms Λ ls X hL hz (List.forall_mem_cons.mpr ⟨trivial, fun v hv => hK v (List.mem_cons_of_mem _ (List.mem_cons_of_mem _ hv))⟩))
theorem ev_ddiv {x y : UInt64} (h : decode (ev_by μ) pc = .ok (.ddiv, 1)) (hne : vf_n64 (FP.ddiv x y)) (kk : ev_E g μ d B (pc + 1) L (ev_d (FP.ddiv x y) :: K) S Q) : ev_E g μ d B pc L (ev_d y :: ev_d x :: K) S Q := by
  intro l p e R s m args below meth c H locs cells slots mc ms Λ ls X hL hz hK
  exact lv_ddiv X.1.1 X.1.2.1 h hne (kk l p e R s m args below meth c H locs cells slots mc ms Λ ls X hL hz (List.forall_mem_cons.mpr ⟨trivial, fun v hv => hK v (List.mem_cons_of_mem _ (List.mem_cons_of_mem _ hv))⟩))
theorem ev_lcmp {x y : Int64} (h : decode (ev_by μ) pc = .ok (.lcmp, 1)) (kk : ev_E g μ d B (pc + 1) L (ev_i (lg_cmp x y) :: K) S Q) : ev_E g μ d B pc L (ev_l y :: ev_l x :: K) S Q := by
  intro l p e R s m args below meth c H locs cells slots mc ms Λ ls X hL hz hK
  exact W.lcmp X.1.1 X.1.2.1 h (kk l p e R s m args below meth c H locs cells slots mc ms Λ ls X hL hz (List.forall_mem_cons.mpr ⟨trivial, fun v hv => hK v (List.mem_cons_of_mem _ (List.mem_cons_of_mem _ hv))⟩))
theorem ev_dcmp {x y : UInt64} {op : CmpOp} (h : decode (ev_by μ) pc = .ok (.dcmp op, 1)) (kk : ev_E g μ d B (pc + 1) L (ev_i (Op.cmpValue (FP.dcmp x y) op) :: K) S Q) : ev_E g μ d B pc L (ev_d y :: ev_d x :: K) S Q := by
  intro l p e R s m args below meth c H locs cells slots mc ms Λ ls X hL hz hK
  exact lv_dcmp X.1.1 X.1.2.1 h (kk l p e R s m args below meth c H locs cells slots mc ms Λ ls X hL hz (List.forall_mem_cons.mpr ⟨trivial, fun v hv => hK v (List.mem_cons_of_mem _ (List.mem_cons_of_mem _ hv))⟩))
theorem ev_iushr {x y : Int32} (h : decode (ev_by μ) pc = .ok (.iushr, 1)) (kk : ev_E g μ d B (pc + 1) L (ev_i (x.toUInt32 >>> (y.toUInt32 &&& Int32.toUInt32 31)).toInt32 :: K) S Q) : ev_E g μ d B pc L (ev_i y :: ev_i x :: K) S Q := by
  intro l p e R s m args below meth c H locs cells slots mc ms Λ ls X hL hz hK
  exact lv_iushr X.1.1 X.1.2.1 h rfl (kk l p e R s m args below meth c H locs cells slots mc ms Λ ls X hL hz (List.forall_mem_cons.mpr ⟨trivial, fun v hv => hK v (List.mem_cons_of_mem _ (List.mem_cons_of_mem _ hv))⟩))
theorem ev_ishr {x y : Int32} (h : decode (ev_by μ) pc = .ok (.ishr, 1)) (kk : ev_E g μ d B (pc + 1) L (ev_i (x >>> (y &&& 31)) :: K) S Q) : ev_E g μ d B pc L (ev_i y :: ev_i x :: K) S Q := by
  intro l p e R s m args below meth c H locs cells slots mc ms Λ ls X hL hz hK
  exact lv_ishr X.1.1 X.1.2.1 h (kk l p e R s m args below meth c H locs cells slots mc ms Λ ls X hL hz (List.forall_mem_cons.mpr ⟨trivial, fun v hv => hK v (List.mem_cons_of_mem _ (List.mem_cons_of_mem _ hv))⟩))
theorem ev_goto {off : Int} (tgt : Nat) (h : decode (ev_by μ) pc = .ok (.goto off, 3)) (ht : (pc : Int) + off = (tgt : Int)) (kk : ev_E g μ d B tgt L K S Q) : ev_E g μ d B pc L K S Q := by
  intro l p e R s m args below meth c H locs cells slots mc ms Λ ls X hL hz hK
  exact lv_goto X.1.1 X.1.2.1 h ht (kk l p e R s m args below meth c H locs cells slots mc ms Λ ls X hL hz hK)
theorem ev_if_eq {x : Int32} {off : Int} (tgt : Nat) (h : decode (ev_by μ) pc = .ok (.ifCond .eq off, 3)) (ht : (pc : Int) + off = (tgt : Int)) (kt : x = 0 → ev_E g μ d B tgt L K S Q) (kf : ¬ x = 0 → ev_E g μ d B (pc + 3) L K S Q) : ev_E g μ d B pc L (ev_i x :: K) S Q := by
  intro l p e R s m args below meth c H locs cells slots mc ms Λ ls X hL hz hK
  exact lv_if_eq X.1.1 X.1.2.1 h ht (fun q => kt q l p e R s m args below meth c H locs cells slots mc ms Λ ls X hL hz (fun v hv => hK v (List.mem_cons_of_mem _ hv))) (fun q => kf q l p e R s m args below meth c H locs cells slots mc ms Λ ls X hL hz (fun v hv => hK v (List.mem_cons_of_mem _ hv)))
theorem ev_icmp_eq {x y : Int32} {off : Int} (tgt : Nat) (h : decode (ev_by μ) pc = .ok (.if_icmp .eq off, 3)) (ht : (pc : Int) + off = (tgt : Int)) (kt : x = y → ev_E g μ d B tgt L K S Q) (kf : ¬ x = y → ev_E g μ d B (pc + 3) L K S Q) : ev_E g μ d B pc L (ev_i y :: ev_i x :: K) S Q := by
  intro l p e R s m args below meth c H locs cells slots mc ms Λ ls X hL hz hK
  exact lv_icmp_eq X.1.1 X.1.2.1 h ht (fun q => kt q l p e R s m args below meth c H locs cells slots mc ms Λ ls X hL hz (fun v hv => hK v (List.mem_cons_of_mem _ (List.mem_cons_of_mem _ hv)))) (fun q => kf q l p e R s m args below meth c H locs cells slots mc ms Λ ls X hL hz (fun v hv => hK v (List.mem_cons_of_mem _ (List.mem_cons_of_mem _ hv))))
theorem ev_if_ne {x : Int32} {off : Int} (tgt : Nat) (h : decode (ev_by μ) pc = .ok (.ifCond .ne off, 3)) (ht : (pc : Int) + off = (tgt : Int)) (kt : ¬ x = 0 → ev_E g μ d B tgt L K S Q) (kf : x = 0 → ev_E g μ d B (pc + 3) L K S Q) : ev_E g μ d B pc L (ev_i x :: K) S Q := by
  intro l p e R s m args below meth c H locs cells slots mc ms Λ ls X hL hz hK
  exact lv_if_ne X.1.1 X.1.2.1 h ht (fun q => kt q l p e R s m args below meth c H locs cells slots mc ms Λ ls X hL hz (fun v hv => hK v (List.mem_cons_of_mem _ hv))) (fun q => kf q l p e R s m args below meth c H locs cells slots mc ms Λ ls X hL hz (fun v hv => hK v (List.mem_cons_of_mem _ hv)))
theorem ev_icmp_ne {x y : Int32} {off : Int} (tgt : Nat) (h : decode (ev_by μ) pc = .ok (.if_icmp .ne off, 3)) (ht : (pc : Int) + off = (tgt : Int)) (kt : ¬ x = y → ev_E g μ d B tgt L K S Q) (kf : x = y → ev_E g μ d B (pc + 3) L K S Q) : ev_E g μ d B pc L (ev_i y :: ev_i x :: K) S Q := by
  intro l p e R s m args below meth c H locs cells slots mc ms Λ ls X hL hz hK
  exact lv_icmp_ne X.1.1 X.1.2.1 h ht (fun q => kt q l p e R s m args below meth c H locs cells slots mc ms Λ ls X hL hz (fun v hv => hK v (List.mem_cons_of_mem _ (List.mem_cons_of_mem _ hv)))) (fun q => kf q l p e R s m args below meth c H locs cells slots mc ms Λ ls X hL hz (fun v hv => hK v (List.mem_cons_of_mem _ (List.mem_cons_of_mem _ hv))))
theorem ev_if_lt {x : Int32} {off : Int} (tgt : Nat) (h : decode (ev_by μ) pc = .ok (.ifCond .lt off, 3)) (ht : (pc : Int) + off = (tgt : Int)) (kt : x < 0 → ev_E g μ d B tgt L K S Q) (kf : ¬ x < 0 → ev_E g μ d B (pc + 3) L K S Q) : ev_E g μ d B pc L (ev_i x :: K) S Q := by
  intro l p e R s m args below meth c H locs cells slots mc ms Λ ls X hL hz hK
  exact lv_if_lt X.1.1 X.1.2.1 h ht (fun q => kt q l p e R s m args below meth c H locs cells slots mc ms Λ ls X hL hz (fun v hv => hK v (List.mem_cons_of_mem _ hv))) (fun q => kf q l p e R s m args below meth c H locs cells slots mc ms Λ ls X hL hz (fun v hv => hK v (List.mem_cons_of_mem _ hv)))
theorem ev_icmp_lt {x y : Int32} {off : Int} (tgt : Nat) (h : decode (ev_by μ) pc = .ok (.if_icmp .lt off, 3)) (ht : (pc : Int) + off = (tgt : Int)) (kt : x < y → ev_E g μ d B tgt L K S Q) (kf : ¬ x < y → ev_E g μ d B (pc + 3) L K S Q) : ev_E g μ d B pc L (ev_i y :: ev_i x :: K) S Q := by
  intro l p e R s m args below meth c H locs cells slots mc ms Λ ls X hL hz hK
  exact lv_icmp_lt X.1.1 X.1.2.1 h ht (fun q => kt q l p e R s m args below meth c H locs cells slots mc ms Λ ls X hL hz (fun v hv => hK v (List.mem_cons_of_mem _ (List.mem_cons_of_mem _ hv)))) (fun q => kf q l p e R s m args below meth c H locs cells slots mc ms Λ ls X hL hz (fun v hv => hK v (List.mem_cons_of_mem _ (List.mem_cons_of_mem _ hv))))
theorem ev_if_ge {x : Int32} {off : Int} (tgt : Nat) (h : decode (ev_by μ) pc = .ok (.ifCond .ge off, 3)) (ht : (pc : Int) + off = (tgt : Int)) (kt : 0 ≤ x → ev_E g μ d B tgt L K S Q) (kf : ¬ 0 ≤ x → ev_E g μ d B (pc + 3) L K S Q) : ev_E g μ d B pc L (ev_i x :: K) S Q := by
  intro l p e R s m args below meth c H locs cells slots mc ms Λ ls X hL hz hK
  exact lv_if_ge X.1.1 X.1.2.1 h ht (fun q => kt q l p e R s m args below meth c H locs cells slots mc ms Λ ls X hL hz (fun v hv => hK v (List.mem_cons_of_mem _ hv))) (fun q => kf q l p e R s m args below meth c H locs cells slots mc ms Λ ls X hL hz (fun v hv => hK v (List.mem_cons_of_mem _ hv)))
theorem ev_icmp_ge {x y : Int32} {off : Int} (tgt : Nat) (h : decode (ev_by μ) pc = .ok (.if_icmp .ge off, 3)) (ht : (pc : Int) + off = (tgt : Int)) (kt : y ≤ x → ev_E g μ d B tgt L K S Q) (kf : ¬ y ≤ x → ev_E g μ d B (pc + 3) L K S Q) : ev_E g μ d B pc L (ev_i y :: ev_i x :: K) S Q := by
  intro l p e R s m args below meth c H locs cells slots mc ms Λ ls X hL hz hK
  exact lv_icmp_ge X.1.1 X.1.2.1 h ht (fun q => kt q l p e R s m args below meth c H locs cells slots mc ms Λ ls X hL hz (fun v hv => hK v (List.mem_cons_of_mem _ (List.mem_cons_of_mem _ hv)))) (fun q => kf q l p e R s m args below meth c H locs cells slots mc ms Λ ls X hL hz (fun v hv => hK v (List.mem_cons_of_mem _ (List.mem_cons_of_mem _ hv))))
theorem ev_if_gt {x : Int32} {off : Int} (tgt : Nat) (h : decode (ev_by μ) pc = .ok (.ifCond .gt off, 3)) (ht : (pc : Int) + off = (tgt : Int)) (kt : 0 < x → ev_E g μ d B tgt L K S Q) (kf : ¬ 0 < x → ev_E g μ d B (pc + 3) L K S Q) : ev_E g μ d B pc L (ev_i x :: K) S Q := by
  intro l p e R s m args below meth c H locs cells slots mc ms Λ ls X hL hz hK
  exact lv_if_gt X.1.1 X.1.2.1 h ht (fun q => kt q l p e R s m args below meth c H locs cells slots mc ms Λ ls X hL hz (fun v hv => hK v (List.mem_cons_of_mem _ hv))) (fun q => kf q l p e R s m args below meth c H locs cells slots mc ms Λ ls X hL hz (fun v hv => hK v (List.mem_cons_of_mem _ hv)))
theorem ev_icmp_gt {x y : Int32} {off : Int} (tgt : Nat) (h : decode (ev_by μ) pc = .ok (.if_icmp .gt off, 3)) (ht : (pc : Int) + off = (tgt : Int)) (kt : y < x → ev_E g μ d B tgt L K S Q) (kf : ¬ y < x → ev_E g μ d B (pc + 3) L K S Q) : ev_E g μ d B pc L (ev_i y :: ev_i x :: K) S Q := by
  intro l p e R s m args below meth c H locs cells slots mc ms Λ ls X hL hz hK
  exact lv_icmp_gt X.1.1 X.1.2.1 h ht (fun q => kt q l p e R s m args below meth c H locs cells slots mc ms Λ ls X hL hz (fun v hv => hK v (List.mem_cons_of_mem _ (List.mem_cons_of_mem _ hv)))) (fun q => kf q l p e R s m args below meth c H locs cells slots mc ms Λ ls X hL hz (fun v hv => hK v (List.mem_cons_of_mem _ (List.mem_cons_of_mem _ hv))))
theorem ev_if_le {x : Int32} {off : Int} (tgt : Nat) (h : decode (ev_by μ) pc = .ok (.ifCond .le off, 3)) (ht : (pc : Int) + off = (tgt : Int)) (kt : x ≤ 0 → ev_E g μ d B tgt L K S Q) (kf : ¬ x ≤ 0 → ev_E g μ d B (pc + 3) L K S Q) : ev_E g μ d B pc L (ev_i x :: K) S Q := by
  intro l p e R s m args below meth c H locs cells slots mc ms Λ ls X hL hz hK
  exact lv_if_le X.1.1 X.1.2.1 h ht (fun q => kt q l p e R s m args below meth c H locs cells slots mc ms Λ ls X hL hz (fun v hv => hK v (List.mem_cons_of_mem _ hv))) (fun q => kf q l p e R s m args below meth c H locs cells slots mc ms Λ ls X hL hz (fun v hv => hK v (List.mem_cons_of_mem _ hv)))
theorem ev_icmp_le {x y : Int32} {off : Int} (tgt : Nat) (h : decode (ev_by μ) pc = .ok (.if_icmp .le off, 3)) (ht : (pc : Int) + off = (tgt : Int)) (kt : x ≤ y → ev_E g μ d B tgt L K S Q) (kf : ¬ x ≤ y → ev_E g μ d B (pc + 3) L K S Q) : ev_E g μ d B pc L (ev_i y :: ev_i x :: K) S Q := by
  intro l p e R s m args below meth c H locs cells slots mc ms Λ ls X hL hz hK
  exact lv_icmp_le X.1.1 X.1.2.1 h ht (fun q => kt q l p e R s m args below meth c H locs cells slots mc ms Λ ls X hL hz (fun v hv => hK v (List.mem_cons_of_mem _ (List.mem_cons_of_mem _ hv)))) (fun q => kf q l p e R s m args below meth c H locs cells slots mc ms Λ ls X hL hz (fun v hv => hK v (List.mem_cons_of_mem _ (List.mem_cons_of_mem _ hv))))
end EvRows
