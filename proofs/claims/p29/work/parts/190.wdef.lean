/-! ## words -/
def gBIG : List Cond := lw_tbl.filter goodWord
theorem gIn {w : Cond} (i : Nat) (h : lw_tbl[i]? = some w) (g : goodWord w = true) : w ∈ gBIG := List.mem_filter.mpr ⟨List.mem_of_getElem? h, g⟩
def gIsN : Cond → Bool
  | .methodLinkNest _ _ _ _ => true
  | .declares _ => true
  | .castable _ _ => true
  | .arrayOver (.object _) => true
  | _ => false
def gNest : List Cond := lw_tbl.filter gIsN
theorem gInN {w : Cond} (i : Nat) (h : lw_tbl[i]? = some w) (g : gIsN w = true) : w ∈ gNest := List.mem_filter.mpr ⟨List.mem_of_getElem? h, g⟩
theorem gNw_warm {w : Cond} (h : gIsN w = true) {s U : State} (hW : s.WarmedH U.vm) (hZ : va_Nw w s) : va_Nw w U := by
  cases w <;> first | exact va_Nw.warmM hW hZ | exact va_Nw.warmD hW hZ | exact va_Nw.warmC hW hZ | (rename_i ty; cases ty <;> first | exact va_AO.moved hW.alike hZ | cases h) | cases h
theorem gNw_same {w : Cond} (h : gIsN w = true) {s U : State} (hW : s.vm = U.vm) (hZ : va_Nw w s) : va_Nw w U := by
  cases w <;> first | exact va_Nw.same rfl hW hZ | (rename_i ty; cases ty <;> first | exact va_AO.moved (by rw [← hW]; exact Vm.Alike.refl s.vm) hZ | cases h) | cases h

abbrev gCl : List vw_C := [(RX0, TX0, 8), (RX1, TX1, 3), (RX2, TX2, 11), (RX3, TX3, 7), (RX4, TX4, 4), (RX5, TX5, 6), (RX6, TX6, 6), (RX7, TX7, 6), (RX8, TX8, 13), (RX9, TX9, 3), (RX10, TX10, 8), (RX11, TX11, 7)]
/-- what is said of a class: its place, its words, its fields' types and names -/
def gCO (ci : Nat) (C : String) (T : u_T) (N : Nat) (ty : Nat → FieldType) : Prop := gCl[ci]? = some (C, T, N) ∧ (∀ w ∈ u_ws C T N, w ∈ gBIG) ∧ (∀ k, k < N → parseFieldDescriptor (T k).2.2.1 = some (ty k)) ∧ (∀ a, a < N → ∀ b, b < N → a ≠ b → (T a).2.1 ≠ (T b).2.1)
/-- what is said of a method that is called: its words -/
def gCal (y : MethodName) (b : ByteArray) (n : Nat) (r : Option FieldType) (a : Nat) (C : String) : Prop := Cond.code y b n r ∈ gBIG ∧ Cond.initialized y.cls ∈ gBIG ∧ y.cls = C ∧ (y.cls ≠ "java/lang/invoke/MethodHandle" ∧ y.cls ≠ "java/lang/invoke/VarHandle") ∧ (parseMethodDescriptor y.desc).map (fun d => d.parameters.length) = some a

