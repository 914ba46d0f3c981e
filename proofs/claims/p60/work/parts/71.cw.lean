/-! ===== the reference: a row is kept; the class: a game is remembered ===== -/
def o_sh (R : Nat → Int32) (i : Nat) : Nat → Int32 := fun j => if i ≤ j ∧ j < 14637 then R (j + 2091) else R j
def o_cpn (R now : Nat → Int32) (u i : Nat) : Nat → Int32 := fun j => if 2091 * u + i ≤ j ∧ j < 2091 * (u + 1) then now (j - 2091 * u) else R j
/-- the row of the kept rows once the row now is kept -/
def o_kp (R now : Nat → Int32) (u : Nat) : Nat → Int32 := if u = 8 then o_cpn (o_sh R 0) now 7 0 else o_cpn R now u 0
def o_ku (u : Nat) : Nat := if u = 8 then 8 else u + 1