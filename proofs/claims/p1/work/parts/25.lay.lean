/-! putting a number into a field -/
def ed_put (ci i : Nat) (v : Int) : Prop := ∀ r : vw_C, ed_cl[ci]? = some r → ∃ ty, (r.2.1 i).2.2.2 = false ∧ parseFieldDescriptor (r.2.1 i).2.2.1 = some ty ∧ narrow ty (.int (iZ v)) = .int (iZ v) ∧ fits ty (.int (iZ v)) = true
def ed_putl (ci i : Nat) : Prop := ∀ r : vw_C, ed_cl[ci]? = some r → (r.2.1 i).2.2.2 = false ∧ parseFieldDescriptor (r.2.1 i).2.2.1 = some .long
