def xc : Nat → Nat → Option (Instr × (Nat × (Nat × (Nat × Value)))) := fun _ _ => none
def xm : Nat → MethodName × (ByteArray × (Nat × (Option FieldType × List (Nat × Nat × Nat × Nat)))) := fun _ => (yL_law, cL_law, 8, none, [])
def xh : Nat → Nat → String → Option (Nat × Nat) := fun _ _ _ => none
def xmc : Nat → Nat := fun _ => 0
def xfty : Nat → Nat → FieldType := fun _ _ => .int
def xdef : Nat → List Value := fun _ => []
def xcf : Nat → Nat → Option Value := fun _ _ => none
def xct : Nat → Option (Nat × List Value) := fun _ => none
def xco : Nat → Option Nat := fun _ => none
def xkc : Nat → Nat := fun _ => 0
def xsw : Nat → Nat → List (Int32 × Nat) := fun _ _ => []
def xen : Nat → String := fun _ => ""
