def xc : Nat → Nat → Option (Instr × (Nat × (Nat × (Nat × Value)))) := fun _ _ => none
def xm : Nat → MethodName × (ByteArray × (Nat × (Option FieldType × List (Nat × Nat × Nat × Nat)))) := fun _ => (yL_law, cL_law, 8, none, [])
def xh : Nat → Nat → String → Option (Nat × Nat) := fun _ _ _ => none
def xmc : Nat → Nat := fun _ => 0
def xfty : Nat → Nat → FieldType := fun _ _ => .int
def xdef : Nat → List Value := fun _ => []
def xcf : Nat → Nat → Option Value := fun _ _ => none
def xct : Nat → Option (Nat × List Value) := fun _ => none
def xco : Nat → Option Nat := fun _ => none
def xkc : Nat → Nat := fun _ => 0
def xsw : Nat → Nat → List (Int32 × Nat) := fun _ _ => []
def xen : Nat → String := fun _ => ""
def xzs : List (String × (String × (String × Value))) := []
def xobs : List (Nat × String) := []
def xofs : List (Nat × (String × (String × (String × Value)))) := []
def xars : List (Nat × (FieldType × List Value)) := []
def xsts : List (String × (Nat × (String × Nat))) := []
def xnfs : List (String × (Nat × (String × (String × (String × String))))) := []
def xnms : List (String × (Nat × (MethodName × String))) := []
def xaos : List String := []
def xaas : List FieldType := []
def xcn : Nat → String := fun _ => ""
def xcas : List (String × String) := []
def xdes : List MethodName := []
def xncs : List (String × String) := []
/-- the methods that may throw -/
def xmt : Nat → Bool := fun _ => false
