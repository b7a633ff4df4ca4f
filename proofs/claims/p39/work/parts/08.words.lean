def BG : List Cond := lw_tbl.filter goodWord
theorem BG_in {w : Cond} (h : w ∈ lw_tbl) (hg : goodWord w = true) : w ∈ BG := List.mem_filter.mpr ⟨h, hg⟩
theorem BG_at {w : Cond} (i : Nat) (h : lw_tbl[i]? = some w) (hg : goodWord w = true) : w ∈ BG := BG_in (List.mem_of_getElem? h) hg
theorem BG_good : ∀ w ∈ BG, w ∈ BG ∧ ((w.onTables && w.keeps) = true ∨ ∃ ty, w = .arrayClass ty) := fun w h => ⟨h, good_of_word (List.mem_filter.mp h).2⟩
def isNst : Cond → Bool
  | .fieldLinkNest _ _ _ _ _ _ => true
  | .methodLinkNest _ _ _ _ => true
  | _ => false
def NG : List Cond := lw_tbl.filter isNst
theorem NG_at {w : Cond} (i : Nat) (h : lw_tbl[i]? = some w) (hg : isNst w = true) : w ∈ NG := List.mem_filter.mpr ⟨List.mem_of_getElem? h, hg⟩
theorem NG_warm {s U : State} (hW : s.WarmedH U.vm) (h : ∀ w ∈ NG, va_Nw w s) : ∀ w ∈ NG, va_Nw w U := by
  intro w hw
  have h1 := h w hw
  have h2 : isNst w = true := (List.mem_filter.mp hw).2
  cases w <;> first | exact va_Nw.warmF hW h1 | exact va_Nw.warmM hW h1 | (exact absurd h2 (by simp [isNst]))
theorem NG_same {s U : State} (hv : s.vm = U.vm) (h : ∀ w ∈ NG, va_Nw w s) : ∀ w ∈ NG, va_Nw w U := by
  intro w hw
  have h1 := h w hw
  have h2 : isNst w = true := (List.mem_filter.mp hw).2
  cases w <;> first | exact va_Nw.same rfl hv h1 | (exact absurd h2 (by simp [isNst]))
/-- a field as it is linked: own class' pool index, class by its place, field's number -/
def GF (own : String) (ix ci f : Nat) : Prop := ∃ (C : String) (T : u_T) (N : Nat), (∀ w ∈ u_ws C T N, w ∈ BG) ∧ wcl[ci]? = some (C, T, N) ∧ f < N ∧ Cond.fieldLink own ix (T f).1 (T f).2.1 (T f).2.2.1 ∈ BG
def GFN (own : String) (ix ci f : Nat) : Prop := ∃ (C : String) (T : u_T) (N : Nat) (host : String), (∀ w ∈ u_ws C T N, w ∈ BG) ∧ wcl[ci]? = some (C, T, N) ∧ f < N ∧ Cond.fieldLinkNest own ix (T f).1 (T f).2.1 (T f).2.2.1 host ∈ NG
/-- what a store of an int into a field needs beside -/
def PF (ci f : Nat) (ty : FieldType) : Prop := ∃ (C : String) (T : u_T) (N : Nat) (tyf : Nat → FieldType), wcl[ci]? = some (C, T, N) ∧ (∀ k, k < N → parseFieldDescriptor (T k).2.2.1 = some (tyf k)) ∧ (∀ a, a < N → ∀ b, b < N → a ≠ b → (T a).2.1 ≠ (T b).2.1) ∧ (T f).2.2.2 = false ∧ parseFieldDescriptor (T f).2.2.1 = some ty
/-- calls -/
def CV (own : String) (ix : Nat) (y : MethodName) (C : String) (cc : ByteArray) (n : Nat) (ret : Option FieldType) (k : Nat) : Prop := (Cond.methodLink own ix y ∈ BG ∧ Cond.instanceMethod y ∈ BG ∧ Cond.selects C y y ∈ BG ∧ Cond.initialized C ∈ BG ∧ Cond.code y cc n ret ∈ BG) ∧ y.cls = C ∧ y.cls ≠ "java/lang/invoke/MethodHandle" ∧ y.cls ≠ "java/lang/invoke/VarHandle" ∧ (parseMethodDescriptor y.desc).map (fun d => d.parameters.length) = some k
def CS (own : String) (ix : Nat) (y : MethodName) (cc : ByteArray) (n : Nat) (ret : Option FieldType) (k : Nat) : Prop := (Cond.methodLink own ix y ∈ BG ∧ Cond.static y ∈ BG ∧ Cond.initialized y.cls ∈ BG ∧ Cond.code y cc n ret ∈ BG) ∧ y.cls ≠ "java/lang/invoke/MethodHandle" ∧ y.cls ≠ "java/lang/invoke/VarHandle" ∧ (parseMethodDescriptor y.desc).map (fun d => d.parameters.length) = some k
def CSN (own : String) (ix : Nat) (y : MethodName) (cc : ByteArray) (n : Nat) (ret : Option FieldType) (k : Nat) : Prop := (∃ host : String, Cond.methodLinkNest own ix y host ∈ NG) ∧ Cond.static y ∈ BG ∧ Cond.initialized y.cls ∈ BG ∧ Cond.code y cc n ret ∈ BG ∧ y.cls ≠ "java/lang/invoke/MethodHandle" ∧ y.cls ≠ "java/lang/invoke/VarHandle" ∧ (parseMethodDescriptor y.desc).map (fun d => d.parameters.length) = some k
def MMw (own : String) (ix : Nat) (y : MethodName) (cy : ByteArray) : Prop := Cond.methodLink own ix y ∈ BG ∧ Cond.static y ∈ BG ∧ Cond.initialized "java/lang/Math" ∈ BG ∧ Cond.code y cy 2 (some .int) ∈ BG
