/-! contracts -/
def T0 : List Cond := lw_tbl.filter goodWord
theorem T0_good (w : Cond) (h : w ∈ T0) : goodWord w = true := (List.mem_filter.mp h).2
theorem T0_in {w : Cond} (h : w ∈ lw_tbl) (g : goodWord w = true) : w ∈ T0 := List.mem_filter.mpr ⟨h, g⟩
theorem T0_at {w : Cond} (i : Nat) (h : lw_tbl[i]? = some w) (g : goodWord w = true) : w ∈ T0 := T0_in (List.mem_of_getElem? h) g
def CalD (y : MethodName) (np : Nat) : Prop := y.cls ≠ "java/lang/invoke/MethodHandle" ∧ y.cls ≠ "java/lang/invoke/VarHandle" ∧ (parseMethodDescriptor y.desc).map (fun d => d.parameters.length) = some np
def CalS (y : MethodName) (cc : ByteArray) (n : Nat) (rt : Option FieldType) (np : Nat) : Prop := Cond.code y cc n rt ∈ T0 ∧ Cond.static y ∈ T0 ∧ Cond.initialized y.cls ∈ T0 ∧ CalD y np ∧ n ≤ 21
def CalV (y : MethodName) (cc : ByteArray) (n : Nat) (rt : Option FieldType) (np : Nat) : Prop := Cond.code y cc n rt ∈ T0 ∧ Cond.instanceMethod y ∈ T0 ∧ Cond.selects y.cls y y ∈ T0 ∧ Cond.initialized y.cls ∈ T0 ∧ CalD y np ∧ n ≤ 21
def CalI (y : MethodName) (cc : ByteArray) (n : Nat) (np : Nat) : Prop := Cond.code y cc n none ∈ T0 ∧ Cond.instanceMethod y ∈ T0 ∧ Cond.initialized y.cls ∈ T0 ∧ y.name = "<init>" ∧ CalD y np ∧ n ≤ 21
