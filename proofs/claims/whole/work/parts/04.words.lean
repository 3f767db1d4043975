/-! the words of the tables that keep, the nest's links; what a call needs of a method -/
-- a method: its name, bytes, locals, what it returns, the frames and the words below it
abbrev zI : Type := MethodName × ByteArray × Nat × Option FieldType × Nat × Nat
def z_isN : Cond → Bool
  | .fieldLinkNest _ _ _ _ _ _ => true
  | .methodLinkNest _ _ _ _ => true
  | _ => false
def z_Ts : List Cond := lw_tbl.filter goodWord
def z_Ns : List Cond := lw_tbl.filter z_isN
theorem z_in {w : Cond} (i : Nat) (h : lw_tbl[i]? = some w) (hg : goodWord w = true) : w ∈ z_Ts := List.mem_filter.mpr ⟨List.mem_of_getElem? h, hg⟩
theorem z_inN {w : Cond} (i : Nat) (h : lw_tbl[i]? = some w) (hg : z_isN w = true) : w ∈ z_Ns := List.mem_filter.mpr ⟨List.mem_of_getElem? h, hg⟩
def z_Cal (i : zI) (n : Nat) : Prop := Cond.code i.1 i.2.1 i.2.2.1 i.2.2.2.1 ∈ z_Ts ∧ Cond.initialized i.1.cls ∈ z_Ts ∧ (i.1.cls ≠ "java/lang/invoke/MethodHandle" ∧ i.1.cls ≠ "java/lang/invoke/VarHandle" ∧ (parseMethodDescriptor i.1.desc).map (fun d => d.parameters.length) = some n)
