abbrev MI : Type := MethodName × ByteArray × Nat × Option FieldType × List ExceptionTableEntry
def gw : List Cond := lw_tbl.filter goodWord
/-- what the tables say of the field that own's entry idx names: the slot j of the class ci -/
def v_fld (own : String) (idx ci j : Nat) : Prop := ∃ (C : String) (T : u_T) (N : Nat), ci < 100 ∧ vwCl[ci]? = some (C, T, N) ∧ j < N ∧ (∀ w ∈ u_ws C T N, w ∈ gw) ∧
  (Cond.fieldLink own idx (T j).1 (T j).2.1 (T j).2.2.1 ∈ gw ∨ ∃ host : String, Cond.fieldLinkNest own idx (T j).1 (T j).2.1 (T j).2.2.1 host ∈ lw_tbl)
/-- and of one that is written there: its type; final ones only in the constructor -/
def v_fldP (own : String) (idx ci j : Nat) (ty : FieldType) (fin : Bool) : Prop := ∃ (C : String) (T : u_T) (N : Nat) (ty0 : Nat → FieldType), ci < 100 ∧ vwCl[ci]? = some (C, T, N) ∧ j < N ∧ (∀ w ∈ u_ws C T N, w ∈ gw) ∧ (∀ k, k < N → parseFieldDescriptor (T k).2.2.1 = some (ty0 k)) ∧ (∀ a, a < N → ∀ b, b < N → a ≠ b → (T a).2.1 ≠ (T b).2.1) ∧ (T j).2.2.2 = fin ∧ parseFieldDescriptor (T j).2.2.1 = some ty ∧ (fin = true → (T j).1 = own) ∧
  (Cond.fieldLink own idx (T j).1 (T j).2.1 (T j).2.2.1 ∈ gw ∨ (fin = false ∧ ∃ host : String, Cond.fieldLinkNest own idx (T j).1 (T j).2.1 (T j).2.2.1 host ∈ lw_tbl))
theorem gw_in {w : Cond} (i : Nat) (h : lw_tbl[i]? = some w) (g : goodWord w = true) : w ∈ gw := List.mem_filter.mpr ⟨List.mem_of_getElem? h, g⟩
abbrev v_nm (M : MI) (n : Nat) : Prop := M.1.cls ≠ "java/lang/invoke/MethodHandle" ∧ M.1.cls ≠ "java/lang/invoke/VarHandle" ∧ (parseMethodDescriptor M.1.desc).map (fun d => d.parameters.length) = some n
def v_cB (M : MI) (n : Nat) : Prop := Cond.code M.1 M.2.1 M.2.2.1 M.2.2.2.1 ∈ gw ∧ Cond.initialized M.1.cls ∈ gw ∧ v_nm M n ∧ M.2.2.1 ≤ 45
def v_cV (own : String) (idx : Nat) (M : MI) (n : Nat) : Prop := v_cB M n ∧ Cond.methodLink own idx M.1 ∈ gw ∧ Cond.instanceMethod M.1 ∈ gw ∧ Cond.selects M.1.cls M.1 M.1 ∈ gw
def v_cS (own : String) (idx : Nat) (M : MI) (n : Nat) : Prop := v_cB M n ∧ Cond.methodLink own idx M.1 ∈ gw ∧ Cond.static M.1 ∈ gw
def v_cI (own : String) (idx : Nat) (M : MI) (n : Nat) : Prop := v_cB M n ∧ (Cond.methodLink own idx M.1 ∈ gw ∨ ∃ host : String, Cond.methodLinkNest own idx M.1 host ∈ lw_tbl) ∧ Cond.instanceMethod M.1 ∈ gw ∧ M.1.name = "<init>" ∧ M.2.2.2.1 = none

