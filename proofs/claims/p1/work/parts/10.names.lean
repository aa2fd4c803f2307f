/-! names, words, decode rows: laid by my program wip/whole -/
def tb : List Cond := lw_tbl.filter goodWord
theorem tb_mem {w : Cond} (h : w ∈ lw_tbl) (g : goodWord w = true) : w ∈ tb := List.mem_filter.mpr ⟨h, g⟩
theorem tb_good : ∀ w ∈ tb, w ∈ lw_tbl ∧ goodWord w = true := fun w h => List.mem_filter.mp h
theorem tg_tb : GoodIn tb tb := fun w h => ⟨h, good_of_word (tb_good w h).2⟩
theorem tg_ws {c : Cond} (h : c ∈ tb) : GoodIn tb (c :: tb) := fun w hw => (List.mem_cons.mp hw).elim (fun e => by subst e; exact tg_tb _ h) (tg_tb w)
theorem tg_V {own C : String} {idx : Nat} {y : MethodName} {c : Cond} (h1 : Cond.methodLink own idx y ∈ tb) (h2 : Cond.instanceMethod y ∈ tb) (h3 : Cond.selects C y y ∈ tb) (h4 : Cond.initialized C ∈ tb) (h5 : c ∈ tb) : GoodIn tb (wsV own idx C y (c :: tb)) := by
  intro w hw
  rcases List.mem_append.mp hw with h | h
  · simp only [List.mem_cons, List.not_mem_nil, or_false] at h
    rcases h with rfl | rfl | rfl | rfl
    · exact tg_tb _ h1
    · exact tg_tb _ h2
    · exact tg_tb _ h3
    · exact tg_tb _ h4
  · exact tg_ws h5 w h
theorem tg_S {own : String} {idx : Nat} {y : MethodName} {c : Cond} (h1 : Cond.methodLink own idx y ∈ tb) (h2 : Cond.static y ∈ tb) (h4 : Cond.initialized own ∈ tb) (h5 : c ∈ tb) : GoodIn tb (wsS own idx y (c :: tb)) := by
  intro w hw
  rcases List.mem_append.mp hw with h | h
  · simp only [List.mem_cons, List.not_mem_nil, or_false] at h
    rcases h with rfl | rfl | rfl
    · exact tg_tb _ h1
    · exact tg_tb _ h2
    · exact tg_tb _ h4
  · exact tg_ws h5 w h
def R_C : String := "WasmMerge"
def R_Module : String := "WasmMerge$Module"
def R_Port : String := "WasmMerge$Port"
def R_Function : String := "WasmMerge$Function"
def R_Part : String := "WasmMerge$Part"
def R_Parser : String := "WasmMerge$Parser"
def R_Reader : String := "WasmMerge$Reader"
def R_Validator : String := "WasmMerge$Validator"
def R_Block : String := "WasmMerge$Block"
def R_Link : String := "WasmMerge$Link"
def R_Machine : String := "WasmMerge$Machine"
def R_M : String := "WasmMergeModel"
def R_MUnit : String := "WasmMergeModel$Unit"
def R_MStop : String := "WasmMergeModel$Stop"
def R_L : String := "WasmMergeLaw"
def R_jException : String := "java/lang/Exception"
def R_jRuntimeException : String := "java/lang/RuntimeException"
def R_jThrowable : String := "java/lang/Throwable"
def F_C : u_T := fun k => match k with
  | 0 => ("WasmMerge", "row", "[B", true)
  | 1 => ("WasmMerge", "rowLength", "I", false)
  | 2 => ("WasmMerge", "modules", "[LWasmMerge$Module;", true)
  | 3 => ("WasmMerge", "moduleCount", "I", false)
  | 4 => ("WasmMerge", "parser", "LWasmMerge$Parser;", true)
  | 5 => ("WasmMerge", "validator", "LWasmMerge$Validator;", true)
  | 6 => ("WasmMerge", "link", "LWasmMerge$Link;", true)
  | 7 => ("WasmMerge", "machine", "LWasmMerge$Machine;", true)
  | 8 => ("WasmMerge", "arguments", "[J", true)
  | 9 => ("WasmMerge", "argumentCount", "I", false)
  | 10 => ("WasmMerge", "merged", "Z", false)
  | 11 => ("WasmMerge", "running", "Z", false)
  | _ => ("WasmMerge", "fault", "I", false)
def t_C : Nat → FieldType := fun k => match k with
  | 0 => .array (.byte)
  | 1 => .int
  | 2 => .array (.object "WasmMerge$Module")
  | 3 => .int
  | 4 => .object "WasmMerge$Parser"
  | 5 => .object "WasmMerge$Validator"
  | 6 => .object "WasmMerge$Link"
  | 7 => .object "WasmMerge$Machine"
  | 8 => .array (.long)
  | 9 => .int
  | 10 => .boolean
  | 11 => .boolean
  | _ => .int
theorem n_C : ∀ a, a < 13 → ∀ b, b < 13 → a ≠ b → (F_C a).2.1 ≠ (F_C b).2.1 := by decide +kernel
theorem t_C_ok : ∀ k, k < 13 → parseFieldDescriptor (F_C k).2.2.1 = some (t_C k) := by decide +kernel
theorem df_C : ∀ j, j < 13 → defaultValue (t_C j) = vp_V [.null, .int 0, .null, .int 0, .null, .null, .null, .null, .null, .int 0, .int 0, .int 0, .int 0] j := by
  intro j hj
  match j, hj with
  | 0, _ => rfl
  | 1, _ => rfl
  | 2, _ => rfl
  | 3, _ => rfl
  | 4, _ => rfl
  | 5, _ => rfl
  | 6, _ => rfl
  | 7, _ => rfl
  | 8, _ => rfl
  | 9, _ => rfl
  | 10, _ => rfl
  | 11, _ => rfl
  | 12, _ => rfl
  | j + 13, h => exact absurd h (by omega)
theorem wi_C : ∀ w ∈ u_ws R_C F_C 13, w ∈ tb := by
  intro w h
  obtain ⟨j, hj, rfl⟩ := List.mem_map.mp h
  have hj := List.mem_range.mp hj
  match j, hj with
  | 0, _ => exact tb_mem (List.mem_append_right _ (tm_3 (List.mem_of_getElem? (i := 136) rfl))) rfl
  | 1, _ => exact tb_mem (List.mem_append_right _ (tm_3 (List.mem_of_getElem? (i := 138) rfl))) rfl
  | 2, _ => exact tb_mem (List.mem_append_right _ (tm_3 (List.mem_of_getElem? (i := 140) rfl))) rfl
  | 3, _ => exact tb_mem (List.mem_append_right _ (tm_3 (List.mem_of_getElem? (i := 142) rfl))) rfl
  | 4, _ => exact tb_mem (List.mem_append_right _ (tm_3 (List.mem_of_getElem? (i := 144) rfl))) rfl
  | 5, _ => exact tb_mem (List.mem_append_right _ (tm_3 (List.mem_of_getElem? (i := 146) rfl))) rfl
  | 6, _ => exact tb_mem (List.mem_append_right _ (tm_3 (List.mem_of_getElem? (i := 148) rfl))) rfl
  | 7, _ => exact tb_mem (List.mem_append_right _ (tm_3 (List.mem_of_getElem? (i := 150) rfl))) rfl
  | 8, _ => exact tb_mem (List.mem_append_right _ (tm_3 (List.mem_of_getElem? (i := 152) rfl))) rfl
  | 9, _ => exact tb_mem (List.mem_append_right _ (tm_3 (List.mem_of_getElem? (i := 154) rfl))) rfl
  | 10, _ => exact tb_mem (List.mem_append_right _ (tm_3 (List.mem_of_getElem? (i := 156) rfl))) rfl
  | 11, _ => exact tb_mem (List.mem_append_right _ (tm_3 (List.mem_of_getElem? (i := 158) rfl))) rfl
  | 12, _ => exact tb_mem (List.mem_append_right _ (tm_3 (List.mem_of_getElem? (i := 160) rfl))) rfl
  | j + 13, h => exact absurd h (by omega)
def F_Module : u_T := fun k => match k with
  | 0 => ("WasmMerge$Module", "bytes", "[B", true)
  | 1 => ("WasmMerge$Module", "types", "[I", true)
  | 2 => ("WasmMerge$Module", "typeCount", "I", false)
  | 3 => ("WasmMerge$Module", "imports", "[LWasmMerge$Port;", true)
  | 4 => ("WasmMerge$Module", "importCount", "I", false)
  | 5 => ("WasmMerge$Module", "functions", "[LWasmMerge$Function;", true)
  | 6 => ("WasmMerge$Module", "functionCount", "I", false)
  | 7 => ("WasmMerge$Module", "globals", "[LWasmMerge$Part;", true)
  | 8 => ("WasmMerge$Module", "globalCount", "I", false)
  | 9 => ("WasmMerge$Module", "exports", "[LWasmMerge$Port;", true)
  | 10 => ("WasmMerge$Module", "exportCount", "I", false)
  | 11 => ("WasmMerge$Module", "elements", "[LWasmMerge$Part;", true)
  | 12 => ("WasmMerge$Module", "elementCount", "I", false)
  | 13 => ("WasmMerge$Module", "data", "[LWasmMerge$Part;", true)
  | 14 => ("WasmMerge$Module", "dataCount", "I", false)
  | 15 => ("WasmMerge$Module", "table", "LWasmMerge$Port;", true)
  | 16 => ("WasmMerge$Module", "tableCount", "I", false)
  | 17 => ("WasmMerge$Module", "memory", "LWasmMerge$Port;", true)
  | 18 => ("WasmMerge$Module", "memoryCount", "I", false)
  | _ => ("WasmMerge$Module", "start", "I", false)
def t_Module : Nat → FieldType := fun k => match k with
  | 0 => .array (.byte)
  | 1 => .array (.int)
  | 2 => .int
  | 3 => .array (.object "WasmMerge$Port")
  | 4 => .int
  | 5 => .array (.object "WasmMerge$Function")
  | 6 => .int
  | 7 => .array (.object "WasmMerge$Part")
  | 8 => .int
  | 9 => .array (.object "WasmMerge$Port")
  | 10 => .int
  | 11 => .array (.object "WasmMerge$Part")
  | 12 => .int
  | 13 => .array (.object "WasmMerge$Part")
  | 14 => .int
  | 15 => .object "WasmMerge$Port"
  | 16 => .int
  | 17 => .object "WasmMerge$Port"
  | 18 => .int
  | _ => .int
theorem n_Module : ∀ a, a < 20 → ∀ b, b < 20 → a ≠ b → (F_Module a).2.1 ≠ (F_Module b).2.1 := by decide +kernel
theorem t_Module_ok : ∀ k, k < 20 → parseFieldDescriptor (F_Module k).2.2.1 = some (t_Module k) := by decide +kernel
theorem df_Module : ∀ j, j < 20 → defaultValue (t_Module j) = vp_V [.null, .null, .int 0, .null, .int 0, .null, .int 0, .null, .int 0, .null, .int 0, .null, .int 0, .null, .int 0, .null, .int 0, .null, .int 0, .int 0] j := by
  intro j hj
  match j, hj with
  | 0, _ => rfl
  | 1, _ => rfl
  | 2, _ => rfl
  | 3, _ => rfl
  | 4, _ => rfl
  | 5, _ => rfl
  | 6, _ => rfl
  | 7, _ => rfl
  | 8, _ => rfl
  | 9, _ => rfl
  | 10, _ => rfl
  | 11, _ => rfl
  | 12, _ => rfl
  | 13, _ => rfl
  | 14, _ => rfl
  | 15, _ => rfl
  | 16, _ => rfl
  | 17, _ => rfl
  | 18, _ => rfl
  | 19, _ => rfl
  | j + 20, h => exact absurd h (by omega)
theorem wi_Module : ∀ w ∈ u_ws R_Module F_Module 20, w ∈ tb := by
  intro w h
  obtain ⟨j, hj, rfl⟩ := List.mem_map.mp h
  have hj := List.mem_range.mp hj
  match j, hj with
  | 0, _ => exact tb_mem (List.mem_append_right _ (tm_2 (List.mem_of_getElem? (i := 11) rfl))) rfl
  | 1, _ => exact tb_mem (List.mem_append_right _ (tm_2 (List.mem_of_getElem? (i := 13) rfl))) rfl
  | 2, _ => exact tb_mem (List.mem_append_right _ (tm_2 (List.mem_of_getElem? (i := 15) rfl))) rfl
  | 3, _ => exact tb_mem (List.mem_append_right _ (tm_2 (List.mem_of_getElem? (i := 17) rfl))) rfl
  | 4, _ => exact tb_mem (List.mem_append_right _ (tm_2 (List.mem_of_getElem? (i := 19) rfl))) rfl
  | 5, _ => exact tb_mem (List.mem_append_right _ (tm_2 (List.mem_of_getElem? (i := 21) rfl))) rfl
  | 6, _ => exact tb_mem (List.mem_append_right _ (tm_2 (List.mem_of_getElem? (i := 23) rfl))) rfl
  | 7, _ => exact tb_mem (List.mem_append_right _ (tm_2 (List.mem_of_getElem? (i := 25) rfl))) rfl
  | 8, _ => exact tb_mem (List.mem_append_right _ (tm_2 (List.mem_of_getElem? (i := 27) rfl))) rfl
  | 9, _ => exact tb_mem (List.mem_append_right _ (tm_2 (List.mem_of_getElem? (i := 29) rfl))) rfl
  | 10, _ => exact tb_mem (List.mem_append_right _ (tm_2 (List.mem_of_getElem? (i := 31) rfl))) rfl
  | 11, _ => exact tb_mem (List.mem_append_right _ (tm_2 (List.mem_of_getElem? (i := 33) rfl))) rfl
  | 12, _ => exact tb_mem (List.mem_append_right _ (tm_2 (List.mem_of_getElem? (i := 35) rfl))) rfl
  | 13, _ => exact tb_mem (List.mem_append_right _ (tm_2 (List.mem_of_getElem? (i := 37) rfl))) rfl
  | 14, _ => exact tb_mem (List.mem_append_right _ (tm_2 (List.mem_of_getElem? (i := 39) rfl))) rfl
  | 15, _ => exact tb_mem (List.mem_append_right _ (tm_2 (List.mem_of_getElem? (i := 41) rfl))) rfl
  | 16, _ => exact tb_mem (List.mem_append_right _ (tm_2 (List.mem_of_getElem? (i := 43) rfl))) rfl
  | 17, _ => exact tb_mem (List.mem_append_right _ (tm_2 (List.mem_of_getElem? (i := 45) rfl))) rfl
  | 18, _ => exact tb_mem (List.mem_append_right _ (tm_2 (List.mem_of_getElem? (i := 47) rfl))) rfl
  | 19, _ => exact tb_mem (List.mem_append_right _ (tm_2 (List.mem_of_getElem? (i := 49) rfl))) rfl
  | j + 20, h => exact absurd h (by omega)
def F_Port : u_T := fun k => match k with
  | 0 => ("WasmMerge$Port", "sort", "I", false)
  | 1 => ("WasmMerge$Port", "index", "I", false)
  | 2 => ("WasmMerge$Port", "moduleAt", "I", false)
  | 3 => ("WasmMerge$Port", "moduleLength", "I", false)
  | 4 => ("WasmMerge$Port", "nameAt", "I", false)
  | 5 => ("WasmMerge$Port", "nameLength", "I", false)
  | 6 => ("WasmMerge$Port", "type", "I", false)
  | 7 => ("WasmMerge$Port", "least", "J", false)
  | _ => ("WasmMerge$Port", "most", "J", false)
def t_Port : Nat → FieldType := fun k => match k with
  | 0 => .int
  | 1 => .int
  | 2 => .int
  | 3 => .int
  | 4 => .int
  | 5 => .int
  | 6 => .int
  | 7 => .long
  | _ => .long
theorem n_Port : ∀ a, a < 9 → ∀ b, b < 9 → a ≠ b → (F_Port a).2.1 ≠ (F_Port b).2.1 := by decide +kernel
theorem t_Port_ok : ∀ k, k < 9 → parseFieldDescriptor (F_Port k).2.2.1 = some (t_Port k) := by decide +kernel
theorem df_Port : ∀ j, j < 9 → defaultValue (t_Port j) = vp_V [.int 0, .int 0, .int 0, .int 0, .int 0, .int 0, .int 0, .long 0, .long 0] j := by
  intro j hj
  match j, hj with
  | 0, _ => rfl
  | 1, _ => rfl
  | 2, _ => rfl
  | 3, _ => rfl
  | 4, _ => rfl
  | 5, _ => rfl
  | 6, _ => rfl
  | 7, _ => rfl
  | 8, _ => rfl
  | j + 9, h => exact absurd h (by omega)
theorem wi_Port : ∀ w ∈ u_ws R_Port F_Port 9, w ∈ tb := by
  intro w h
  obtain ⟨j, hj, rfl⟩ := List.mem_map.mp h
  have hj := List.mem_range.mp hj
  match j, hj with
  | 0, _ => exact tb_mem (List.mem_append_right _ (tm_1 (List.mem_of_getElem? (i := 87) rfl))) rfl
  | 1, _ => exact tb_mem (List.mem_append_right _ (tm_1 (List.mem_of_getElem? (i := 89) rfl))) rfl
  | 2, _ => exact tb_mem (List.mem_append_right _ (tm_1 (List.mem_of_getElem? (i := 91) rfl))) rfl
  | 3, _ => exact tb_mem (List.mem_append_right _ (tm_1 (List.mem_of_getElem? (i := 93) rfl))) rfl
  | 4, _ => exact tb_mem (List.mem_append_right _ (tm_1 (List.mem_of_getElem? (i := 95) rfl))) rfl
  | 5, _ => exact tb_mem (List.mem_append_right _ (tm_1 (List.mem_of_getElem? (i := 97) rfl))) rfl
  | 6, _ => exact tb_mem (List.mem_append_right _ (tm_1 (List.mem_of_getElem? (i := 99) rfl))) rfl
  | 7, _ => exact tb_mem (List.mem_append_right _ (tm_1 (List.mem_of_getElem? (i := 101) rfl))) rfl
  | 8, _ => exact tb_mem (List.mem_append_right _ (tm_1 (List.mem_of_getElem? (i := 103) rfl))) rfl
  | j + 9, h => exact absurd h (by omega)
def F_Function : u_T := fun k => match k with
  | 0 => ("WasmMerge$Function", "type", "I", false)
  | 1 => ("WasmMerge$Function", "at", "I", false)
  | 2 => ("WasmMerge$Function", "end", "I", false)
  | 3 => ("WasmMerge$Function", "locals", "I", false)
  | _ => ("WasmMerge$Function", "entry", "I", false)
def t_Function : Nat → FieldType := fun k => match k with
  | 0 => .int
  | 1 => .int
  | 2 => .int
  | 3 => .int
  | _ => .int
theorem n_Function : ∀ a, a < 5 → ∀ b, b < 5 → a ≠ b → (F_Function a).2.1 ≠ (F_Function b).2.1 := by decide +kernel
theorem t_Function_ok : ∀ k, k < 5 → parseFieldDescriptor (F_Function k).2.2.1 = some (t_Function k) := by decide +kernel
theorem df_Function : ∀ j, j < 5 → defaultValue (t_Function j) = vp_V [.int 0, .int 0, .int 0, .int 0, .int 0] j := by
  intro j hj
  match j, hj with
  | 0, _ => rfl
  | 1, _ => rfl
  | 2, _ => rfl
  | 3, _ => rfl
  | 4, _ => rfl
  | j + 5, h => exact absurd h (by omega)
theorem wi_Function : ∀ w ∈ u_ws R_Function F_Function 5, w ∈ tb := by
  intro w h
  obtain ⟨j, hj, rfl⟩ := List.mem_map.mp h
  have hj := List.mem_range.mp hj
  match j, hj with
  | 0, _ => exact tb_mem (List.mem_append_right _ (tm_1 (List.mem_of_getElem? (i := 126) rfl))) rfl
  | 1, _ => exact tb_mem (List.mem_append_right _ (tm_1 (List.mem_of_getElem? (i := 128) rfl))) rfl
  | 2, _ => exact tb_mem (List.mem_append_right _ (tm_1 (List.mem_of_getElem? (i := 130) rfl))) rfl
  | 3, _ => exact tb_mem (List.mem_append_right _ (tm_1 (List.mem_of_getElem? (i := 132) rfl))) rfl
  | 4, _ => exact tb_mem (List.mem_append_right _ (tm_1 (List.mem_of_getElem? (i := 134) rfl))) rfl
  | j + 5, h => exact absurd h (by omega)
def F_Part : u_T := fun k => match k with
  | 0 => ("WasmMerge$Part", "type", "I", false)
  | 1 => ("WasmMerge$Part", "target", "I", false)
  | 2 => ("WasmMerge$Part", "op", "I", false)
  | 3 => ("WasmMerge$Part", "value", "J", false)
  | 4 => ("WasmMerge$Part", "at", "I", false)
  | _ => ("WasmMerge$Part", "size", "I", false)
def t_Part : Nat → FieldType := fun k => match k with
  | 0 => .int
  | 1 => .int
  | 2 => .int
  | 3 => .long
  | 4 => .int
  | _ => .int
theorem n_Part : ∀ a, a < 6 → ∀ b, b < 6 → a ≠ b → (F_Part a).2.1 ≠ (F_Part b).2.1 := by decide +kernel
theorem t_Part_ok : ∀ k, k < 6 → parseFieldDescriptor (F_Part k).2.2.1 = some (t_Part k) := by decide +kernel
theorem df_Part : ∀ j, j < 6 → defaultValue (t_Part j) = vp_V [.int 0, .int 0, .int 0, .long 0, .int 0, .int 0] j := by
  intro j hj
  match j, hj with
  | 0, _ => rfl
  | 1, _ => rfl
  | 2, _ => rfl
  | 3, _ => rfl
  | 4, _ => rfl
  | 5, _ => rfl
  | j + 6, h => exact absurd h (by omega)
theorem wi_Part : ∀ w ∈ u_ws R_Part F_Part 6, w ∈ tb := by
  intro w h
  obtain ⟨j, hj, rfl⟩ := List.mem_map.mp h
  have hj := List.mem_range.mp hj
  match j, hj with
  | 0, _ => exact tb_mem (List.mem_append_right _ (tm_1 (List.mem_of_getElem? (i := 159) rfl))) rfl
  | 1, _ => exact tb_mem (List.mem_append_right _ (tm_1 (List.mem_of_getElem? (i := 161) rfl))) rfl
  | 2, _ => exact tb_mem (List.mem_append_right _ (tm_1 (List.mem_of_getElem? (i := 163) rfl))) rfl
  | 3, _ => exact tb_mem (List.mem_append_right _ (tm_1 (List.mem_of_getElem? (i := 165) rfl))) rfl
  | 4, _ => exact tb_mem (List.mem_append_right _ (tm_1 (List.mem_of_getElem? (i := 167) rfl))) rfl
  | 5, _ => exact tb_mem (List.mem_append_right _ (tm_1 (List.mem_of_getElem? (i := 169) rfl))) rfl
  | j + 6, h => exact absurd h (by omega)
def F_Parser : u_T := fun k => match k with
  | 0 => ("WasmMerge$Parser", "reader", "LWasmMerge$Reader;", true)
  | 1 => ("WasmMerge$Parser", "kinds", "[I", true)
  | 2 => ("WasmMerge$Parser", "sparePort", "LWasmMerge$Port;", true)
  | 3 => ("WasmMerge$Parser", "spareFunction", "LWasmMerge$Function;", true)
  | 4 => ("WasmMerge$Parser", "sparePart", "LWasmMerge$Part;", true)
  | 5 => ("WasmMerge$Parser", "module", "LWasmMerge$Module;", false)
  | 6 => ("WasmMerge$Parser", "over", "Z", false)
  | 7 => ("WasmMerge$Parser", "wrongLimits", "Z", false)
  | 8 => ("WasmMerge$Parser", "firstOwn", "I", false)
  | 9 => ("WasmMerge$Parser", "ownFunctions", "I", false)
  | _ => ("WasmMerge$Parser", "bodies", "I", false)
def t_Parser : Nat → FieldType := fun k => match k with
  | 0 => .object "WasmMerge$Reader"
  | 1 => .array (.int)
  | 2 => .object "WasmMerge$Port"
  | 3 => .object "WasmMerge$Function"
  | 4 => .object "WasmMerge$Part"
  | 5 => .object "WasmMerge$Module"
  | 6 => .boolean
  | 7 => .boolean
  | 8 => .int
  | 9 => .int
  | _ => .int
theorem n_Parser : ∀ a, a < 11 → ∀ b, b < 11 → a ≠ b → (F_Parser a).2.1 ≠ (F_Parser b).2.1 := by decide +kernel
theorem t_Parser_ok : ∀ k, k < 11 → parseFieldDescriptor (F_Parser k).2.2.1 = some (t_Parser k) := by decide +kernel
theorem df_Parser : ∀ j, j < 11 → defaultValue (t_Parser j) = vp_V [.null, .null, .null, .null, .null, .null, .int 0, .int 0, .int 0, .int 0, .int 0] j := by
  intro j hj
  match j, hj with
  | 0, _ => rfl
  | 1, _ => rfl
  | 2, _ => rfl
  | 3, _ => rfl
  | 4, _ => rfl
  | 5, _ => rfl
  | 6, _ => rfl
  | 7, _ => rfl
  | 8, _ => rfl
  | 9, _ => rfl
  | 10, _ => rfl
  | j + 11, h => exact absurd h (by omega)
theorem wi_Parser : ∀ w ∈ u_ws R_Parser F_Parser 11, w ∈ tb := by
  intro w h
  obtain ⟨j, hj, rfl⟩ := List.mem_map.mp h
  have hj := List.mem_range.mp hj
  match j, hj with
  | 0, _ => exact tb_mem (List.mem_append_right _ (tm_2 (List.mem_of_getElem? (i := 120) rfl))) rfl
  | 1, _ => exact tb_mem (List.mem_append_right _ (tm_2 (List.mem_of_getElem? (i := 122) rfl))) rfl
  | 2, _ => exact tb_mem (List.mem_append_right _ (tm_2 (List.mem_of_getElem? (i := 124) rfl))) rfl
  | 3, _ => exact tb_mem (List.mem_append_right _ (tm_2 (List.mem_of_getElem? (i := 126) rfl))) rfl
  | 4, _ => exact tb_mem (List.mem_append_right _ (tm_2 (List.mem_of_getElem? (i := 128) rfl))) rfl
  | 5, _ => exact tb_mem (List.mem_append_right _ (tm_2 (List.mem_of_getElem? (i := 130) rfl))) rfl
  | 6, _ => exact tb_mem (List.mem_append_right _ (tm_2 (List.mem_of_getElem? (i := 132) rfl))) rfl
  | 7, _ => exact tb_mem (List.mem_append_right _ (tm_2 (List.mem_of_getElem? (i := 134) rfl))) rfl
  | 8, _ => exact tb_mem (List.mem_append_right _ (tm_2 (List.mem_of_getElem? (i := 136) rfl))) rfl
  | 9, _ => exact tb_mem (List.mem_append_right _ (tm_2 (List.mem_of_getElem? (i := 138) rfl))) rfl
  | 10, _ => exact tb_mem (List.mem_append_right _ (tm_2 (List.mem_of_getElem? (i := 140) rfl))) rfl
  | j + 11, h => exact absurd h (by omega)
def F_Reader : u_T := fun k => match k with
  | 0 => ("WasmMerge$Reader", "bytes", "[B", false)
  | 1 => ("WasmMerge$Reader", "at", "I", false)
  | 2 => ("WasmMerge$Reader", "limit", "I", false)
  | 3 => ("WasmMerge$Reader", "bad", "Z", false)
  | 4 => ("WasmMerge$Reader", "op", "I", false)
  | 5 => ("WasmMerge$Reader", "index", "I", false)
  | 6 => ("WasmMerge$Reader", "number", "J", false)
  | 7 => ("WasmMerge$Reader", "labels", "[I", true)
  | _ => ("WasmMerge$Reader", "labelCount", "I", false)
def t_Reader : Nat → FieldType := fun k => match k with
  | 0 => .array (.byte)
  | 1 => .int
  | 2 => .int
  | 3 => .boolean
  | 4 => .int
  | 5 => .int
  | 6 => .long
  | 7 => .array (.int)
  | _ => .int
theorem n_Reader : ∀ a, a < 9 → ∀ b, b < 9 → a ≠ b → (F_Reader a).2.1 ≠ (F_Reader b).2.1 := by decide +kernel
theorem t_Reader_ok : ∀ k, k < 9 → parseFieldDescriptor (F_Reader k).2.2.1 = some (t_Reader k) := by decide +kernel
theorem df_Reader : ∀ j, j < 9 → defaultValue (t_Reader j) = vp_V [.null, .int 0, .int 0, .int 0, .int 0, .int 0, .long 0, .null, .int 0] j := by
  intro j hj
  match j, hj with
  | 0, _ => rfl
  | 1, _ => rfl
  | 2, _ => rfl
  | 3, _ => rfl
  | 4, _ => rfl
  | 5, _ => rfl
  | 6, _ => rfl
  | 7, _ => rfl
  | 8, _ => rfl
  | j + 9, h => exact absurd h (by omega)
theorem wi_Reader : ∀ w ∈ u_ws R_Reader F_Reader 9, w ∈ tb := by
  intro w h
  obtain ⟨j, hj, rfl⟩ := List.mem_map.mp h
  have hj := List.mem_range.mp hj
  match j, hj with
  | 0, _ => exact tb_mem (List.mem_append_right _ (tm_2 (List.mem_of_getElem? (i := 84) rfl))) rfl
  | 1, _ => exact tb_mem (List.mem_append_right _ (tm_2 (List.mem_of_getElem? (i := 86) rfl))) rfl
  | 2, _ => exact tb_mem (List.mem_append_right _ (tm_2 (List.mem_of_getElem? (i := 88) rfl))) rfl
  | 3, _ => exact tb_mem (List.mem_append_right _ (tm_2 (List.mem_of_getElem? (i := 90) rfl))) rfl
  | 4, _ => exact tb_mem (List.mem_append_right _ (tm_2 (List.mem_of_getElem? (i := 92) rfl))) rfl
  | 5, _ => exact tb_mem (List.mem_append_right _ (tm_2 (List.mem_of_getElem? (i := 94) rfl))) rfl
  | 6, _ => exact tb_mem (List.mem_append_right _ (tm_2 (List.mem_of_getElem? (i := 96) rfl))) rfl
  | 7, _ => exact tb_mem (List.mem_append_right _ (tm_2 (List.mem_of_getElem? (i := 98) rfl))) rfl
  | 8, _ => exact tb_mem (List.mem_append_right _ (tm_2 (List.mem_of_getElem? (i := 100) rfl))) rfl
  | j + 9, h => exact absurd h (by omega)
def F_Validator : u_T := fun k => match k with
  | 0 => ("WasmMerge$Validator", "code", "[I", true)
  | 1 => ("WasmMerge$Validator", "reader", "LWasmMerge$Reader;", true)
  | 2 => ("WasmMerge$Validator", "module", "LWasmMerge$Module;", false)
  | 3 => ("WasmMerge$Validator", "slot", "I", false)
  | 4 => ("WasmMerge$Validator", "valid", "Z", false)
  | 5 => ("WasmMerge$Validator", "out", "I", false)
  | 6 => ("WasmMerge$Validator", "stack", "[I", true)
  | 7 => ("WasmMerge$Validator", "height", "I", false)
  | 8 => ("WasmMerge$Validator", "blocks", "[LWasmMerge$Block;", true)
  | 9 => ("WasmMerge$Validator", "depth", "I", false)
  | 10 => ("WasmMerge$Validator", "block", "LWasmMerge$Block;", false)
  | 11 => ("WasmMerge$Validator", "locals", "[I", true)
  | _ => ("WasmMerge$Validator", "localCount", "I", false)
def t_Validator : Nat → FieldType := fun k => match k with
  | 0 => .array (.int)
  | 1 => .object "WasmMerge$Reader"
  | 2 => .object "WasmMerge$Module"
  | 3 => .int
  | 4 => .boolean
  | 5 => .int
  | 6 => .array (.int)
  | 7 => .int
  | 8 => .array (.object "WasmMerge$Block")
  | 9 => .int
  | 10 => .object "WasmMerge$Block"
  | 11 => .array (.int)
  | _ => .int
theorem n_Validator : ∀ a, a < 13 → ∀ b, b < 13 → a ≠ b → (F_Validator a).2.1 ≠ (F_Validator b).2.1 := by decide +kernel
theorem t_Validator_ok : ∀ k, k < 13 → parseFieldDescriptor (F_Validator k).2.2.1 = some (t_Validator k) := by decide +kernel
theorem df_Validator : ∀ j, j < 13 → defaultValue (t_Validator j) = vp_V [.null, .null, .null, .int 0, .int 0, .int 0, .null, .int 0, .null, .int 0, .null, .null, .int 0] j := by
  intro j hj
  match j, hj with
  | 0, _ => rfl
  | 1, _ => rfl
  | 2, _ => rfl
  | 3, _ => rfl
  | 4, _ => rfl
  | 5, _ => rfl
  | 6, _ => rfl
  | 7, _ => rfl
  | 8, _ => rfl
  | 9, _ => rfl
  | 10, _ => rfl
  | 11, _ => rfl
  | 12, _ => rfl
  | j + 13, h => exact absurd h (by omega)
theorem wi_Validator : ∀ w ∈ u_ws R_Validator F_Validator 13, w ∈ tb := by
  intro w h
  obtain ⟨j, hj, rfl⟩ := List.mem_map.mp h
  have hj := List.mem_range.mp hj
  match j, hj with
  | 0, _ => exact tb_mem (List.mem_append_right _ (tm_2 (List.mem_of_getElem? (i := 193) rfl))) rfl
  | 1, _ => exact tb_mem (List.mem_append_right _ (tm_2 (List.mem_of_getElem? (i := 195) rfl))) rfl
  | 2, _ => exact tb_mem (List.mem_append_right _ (tm_2 (List.mem_of_getElem? (i := 197) rfl))) rfl
  | 3, _ => exact tb_mem (List.mem_append_right _ (tm_2 (List.mem_of_getElem? (i := 199) rfl))) rfl
  | 4, _ => exact tb_mem (List.mem_append_right _ (tm_2 (List.mem_of_getElem? (i := 201) rfl))) rfl
  | 5, _ => exact tb_mem (List.mem_append_right _ (tm_2 (List.mem_of_getElem? (i := 203) rfl))) rfl
  | 6, _ => exact tb_mem (List.mem_append_right _ (tm_2 (List.mem_of_getElem? (i := 205) rfl))) rfl
  | 7, _ => exact tb_mem (List.mem_append_right _ (tm_2 (List.mem_of_getElem? (i := 207) rfl))) rfl
  | 8, _ => exact tb_mem (List.mem_append_right _ (tm_2 (List.mem_of_getElem? (i := 209) rfl))) rfl
  | 9, _ => exact tb_mem (List.mem_append_right _ (tm_2 (List.mem_of_getElem? (i := 211) rfl))) rfl
  | 10, _ => exact tb_mem (List.mem_append_right _ (tm_2 (List.mem_of_getElem? (i := 213) rfl))) rfl
  | 11, _ => exact tb_mem (List.mem_append_right _ (tm_2 (List.mem_of_getElem? (i := 215) rfl))) rfl
  | 12, _ => exact tb_mem (List.mem_append_right _ (tm_2 (List.mem_of_getElem? (i := 217) rfl))) rfl
  | j + 13, h => exact absurd h (by omega)
def F_Block : u_T := fun k => match k with
  | 0 => ("WasmMerge$Block", "op", "I", false)
  | 1 => ("WasmMerge$Block", "result", "I", false)
  | 2 => ("WasmMerge$Block", "height", "I", false)
  | 3 => ("WasmMerge$Block", "dead", "Z", false)
  | 4 => ("WasmMerge$Block", "start", "I", false)
  | 5 => ("WasmMerge$Block", "elseAt", "I", false)
  | _ => ("WasmMerge$Block", "chain", "I", false)
def t_Block : Nat → FieldType := fun k => match k with
  | 0 => .int
  | 1 => .int
  | 2 => .int
  | 3 => .boolean
  | 4 => .int
  | 5 => .int
  | _ => .int
theorem n_Block : ∀ a, a < 7 → ∀ b, b < 7 → a ≠ b → (F_Block a).2.1 ≠ (F_Block b).2.1 := by decide +kernel
theorem t_Block_ok : ∀ k, k < 7 → parseFieldDescriptor (F_Block k).2.2.1 = some (t_Block k) := by decide +kernel
theorem df_Block : ∀ j, j < 7 → defaultValue (t_Block j) = vp_V [.int 0, .int 0, .int 0, .int 0, .int 0, .int 0, .int 0] j := by
  intro j hj
  match j, hj with
  | 0, _ => rfl
  | 1, _ => rfl
  | 2, _ => rfl
  | 3, _ => rfl
  | 4, _ => rfl
  | 5, _ => rfl
  | 6, _ => rfl
  | j + 7, h => exact absurd h (by omega)
theorem wi_Block : ∀ w ∈ u_ws R_Block F_Block 7, w ∈ tb := by
  intro w h
  obtain ⟨j, hj, rfl⟩ := List.mem_map.mp h
  have hj := List.mem_range.mp hj
  match j, hj with
  | 0, _ => exact tb_mem (List.mem_append_right _ (tm_2 (List.mem_of_getElem? (i := 165) rfl))) rfl
  | 1, _ => exact tb_mem (List.mem_append_right _ (tm_2 (List.mem_of_getElem? (i := 167) rfl))) rfl
  | 2, _ => exact tb_mem (List.mem_append_right _ (tm_2 (List.mem_of_getElem? (i := 169) rfl))) rfl
  | 3, _ => exact tb_mem (List.mem_append_right _ (tm_2 (List.mem_of_getElem? (i := 171) rfl))) rfl
  | 4, _ => exact tb_mem (List.mem_append_right _ (tm_2 (List.mem_of_getElem? (i := 173) rfl))) rfl
  | 5, _ => exact tb_mem (List.mem_append_right _ (tm_2 (List.mem_of_getElem? (i := 175) rfl))) rfl
  | 6, _ => exact tb_mem (List.mem_append_right _ (tm_2 (List.mem_of_getElem? (i := 177) rfl))) rfl
  | j + 7, h => exact absurd h (by omega)
def F_Link : u_T := fun k => match k with
  | 0 => ("WasmMerge$Link", "modules", "[LWasmMerge$Module;", true)
  | 1 => ("WasmMerge$Link", "moduleCount", "I", false)
  | 2 => ("WasmMerge$Link", "functionOf", "[I", true)
  | 3 => ("WasmMerge$Link", "globalOf", "[I", true)
  | 4 => ("WasmMerge$Link", "signatures", "[I", true)
  | 5 => ("WasmMerge$Link", "entries", "[I", true)
  | 6 => ("WasmMerge$Link", "localCounts", "[I", true)
  | 7 => ("WasmMerge$Link", "types", "[I", true)
  | 8 => ("WasmMerge$Link", "typeCount", "I", false)
  | 9 => ("WasmMerge$Link", "hostCount", "I", false)
  | 10 => ("WasmMerge$Link", "functionCount", "I", false)
  | 11 => ("WasmMerge$Link", "globalCount", "I", false)
  | 12 => ("WasmMerge$Link", "exportCount", "I", false)
  | 13 => ("WasmMerge$Link", "tableSize", "I", false)
  | 14 => ("WasmMerge$Link", "leastPages", "I", false)
  | 15 => ("WasmMerge$Link", "mostPages", "I", false)
  | 16 => ("WasmMerge$Link", "endModule", "I", false)
  | _ => ("WasmMerge$Link", "endIndex", "I", false)
def t_Link : Nat → FieldType := fun k => match k with
  | 0 => .array (.object "WasmMerge$Module")
  | 1 => .int
  | 2 => .array (.int)
  | 3 => .array (.int)
  | 4 => .array (.int)
  | 5 => .array (.int)
  | 6 => .array (.int)
  | 7 => .array (.int)
  | 8 => .int
  | 9 => .int
  | 10 => .int
  | 11 => .int
  | 12 => .int
  | 13 => .int
  | 14 => .int
  | 15 => .int
  | 16 => .int
  | _ => .int
theorem n_Link : ∀ a, a < 18 → ∀ b, b < 18 → a ≠ b → (F_Link a).2.1 ≠ (F_Link b).2.1 := by decide +kernel
theorem t_Link_ok : ∀ k, k < 18 → parseFieldDescriptor (F_Link k).2.2.1 = some (t_Link k) := by decide +kernel
theorem df_Link : ∀ j, j < 18 → defaultValue (t_Link j) = vp_V [.null, .int 0, .null, .null, .null, .null, .null, .null, .int 0, .int 0, .int 0, .int 0, .int 0, .int 0, .int 0, .int 0, .int 0, .int 0] j := by
  intro j hj
  match j, hj with
  | 0, _ => rfl
  | 1, _ => rfl
  | 2, _ => rfl
  | 3, _ => rfl
  | 4, _ => rfl
  | 5, _ => rfl
  | 6, _ => rfl
  | 7, _ => rfl
  | 8, _ => rfl
  | 9, _ => rfl
  | 10, _ => rfl
  | 11, _ => rfl
  | 12, _ => rfl
  | 13, _ => rfl
  | 14, _ => rfl
  | 15, _ => rfl
  | 16, _ => rfl
  | 17, _ => rfl
  | j + 18, h => exact absurd h (by omega)
theorem wi_Link : ∀ w ∈ u_ws R_Link F_Link 18, w ∈ tb := by
  intro w h
  obtain ⟨j, hj, rfl⟩ := List.mem_map.mp h
  have hj := List.mem_range.mp hj
  match j, hj with
  | 0, _ => exact tb_mem (List.mem_append_right _ (tm_3 (List.mem_of_getElem? (i := 16) rfl))) rfl
  | 1, _ => exact tb_mem (List.mem_append_right _ (tm_3 (List.mem_of_getElem? (i := 18) rfl))) rfl
  | 2, _ => exact tb_mem (List.mem_append_right _ (tm_3 (List.mem_of_getElem? (i := 20) rfl))) rfl
  | 3, _ => exact tb_mem (List.mem_append_right _ (tm_3 (List.mem_of_getElem? (i := 22) rfl))) rfl
  | 4, _ => exact tb_mem (List.mem_append_right _ (tm_3 (List.mem_of_getElem? (i := 24) rfl))) rfl
  | 5, _ => exact tb_mem (List.mem_append_right _ (tm_3 (List.mem_of_getElem? (i := 26) rfl))) rfl
  | 6, _ => exact tb_mem (List.mem_append_right _ (tm_3 (List.mem_of_getElem? (i := 28) rfl))) rfl
  | 7, _ => exact tb_mem (List.mem_append_right _ (tm_3 (List.mem_of_getElem? (i := 30) rfl))) rfl
  | 8, _ => exact tb_mem (List.mem_append_right _ (tm_3 (List.mem_of_getElem? (i := 32) rfl))) rfl
  | 9, _ => exact tb_mem (List.mem_append_right _ (tm_3 (List.mem_of_getElem? (i := 34) rfl))) rfl
  | 10, _ => exact tb_mem (List.mem_append_right _ (tm_3 (List.mem_of_getElem? (i := 36) rfl))) rfl
  | 11, _ => exact tb_mem (List.mem_append_right _ (tm_3 (List.mem_of_getElem? (i := 38) rfl))) rfl
  | 12, _ => exact tb_mem (List.mem_append_right _ (tm_3 (List.mem_of_getElem? (i := 40) rfl))) rfl
  | 13, _ => exact tb_mem (List.mem_append_right _ (tm_3 (List.mem_of_getElem? (i := 42) rfl))) rfl
  | 14, _ => exact tb_mem (List.mem_append_right _ (tm_3 (List.mem_of_getElem? (i := 44) rfl))) rfl
  | 15, _ => exact tb_mem (List.mem_append_right _ (tm_3 (List.mem_of_getElem? (i := 46) rfl))) rfl
  | 16, _ => exact tb_mem (List.mem_append_right _ (tm_3 (List.mem_of_getElem? (i := 48) rfl))) rfl
  | 17, _ => exact tb_mem (List.mem_append_right _ (tm_3 (List.mem_of_getElem? (i := 50) rfl))) rfl
  | j + 18, h => exact absurd h (by omega)
def F_Machine : u_T := fun k => match k with
  | 0 => ("WasmMerge$Machine", "code", "[I", true)
  | 1 => ("WasmMerge$Machine", "link", "LWasmMerge$Link;", true)
  | 2 => ("WasmMerge$Machine", "reader", "LWasmMerge$Reader;", true)
  | 3 => ("WasmMerge$Machine", "stack", "[J", true)
  | 4 => ("WasmMerge$Machine", "top", "I", false)
  | 5 => ("WasmMerge$Machine", "base", "I", false)
  | 6 => ("WasmMerge$Machine", "pc", "I", false)
  | 7 => ("WasmMerge$Machine", "depth", "I", false)
  | 8 => ("WasmMerge$Machine", "returns", "[I", true)
  | 9 => ("WasmMerge$Machine", "bases", "[I", true)
  | 10 => ("WasmMerge$Machine", "steps", "I", false)
  | 11 => ("WasmMerge$Machine", "trap", "I", false)
  | 12 => ("WasmMerge$Machine", "bytes", "[B", true)
  | 13 => ("WasmMerge$Machine", "pages", "I", false)
  | 14 => ("WasmMerge$Machine", "table", "[I", true)
  | 15 => ("WasmMerge$Machine", "globals", "[J", true)
  | 16 => ("WasmMerge$Machine", "output", "[J", true)
  | 17 => ("WasmMerge$Machine", "outputAt", "I", false)
  | _ => ("WasmMerge$Machine", "outputCount", "I", false)
def t_Machine : Nat → FieldType := fun k => match k with
  | 0 => .array (.int)
  | 1 => .object "WasmMerge$Link"
  | 2 => .object "WasmMerge$Reader"
  | 3 => .array (.long)
  | 4 => .int
  | 5 => .int
  | 6 => .int
  | 7 => .int
  | 8 => .array (.int)
  | 9 => .array (.int)
  | 10 => .int
  | 11 => .int
  | 12 => .array (.byte)
  | 13 => .int
  | 14 => .array (.int)
  | 15 => .array (.long)
  | 16 => .array (.long)
  | 17 => .int
  | _ => .int
theorem n_Machine : ∀ a, a < 19 → ∀ b, b < 19 → a ≠ b → (F_Machine a).2.1 ≠ (F_Machine b).2.1 := by decide +kernel
theorem t_Machine_ok : ∀ k, k < 19 → parseFieldDescriptor (F_Machine k).2.2.1 = some (t_Machine k) := by decide +kernel
theorem df_Machine : ∀ j, j < 19 → defaultValue (t_Machine j) = vp_V [.null, .null, .null, .null, .int 0, .int 0, .int 0, .int 0, .null, .null, .int 0, .int 0, .null, .int 0, .null, .null, .null, .int 0, .int 0] j := by
  intro j hj
  match j, hj with
  | 0, _ => rfl
  | 1, _ => rfl
  | 2, _ => rfl
  | 3, _ => rfl
  | 4, _ => rfl
  | 5, _ => rfl
  | 6, _ => rfl
  | 7, _ => rfl
  | 8, _ => rfl
  | 9, _ => rfl
  | 10, _ => rfl
  | 11, _ => rfl
  | 12, _ => rfl
  | 13, _ => rfl
  | 14, _ => rfl
  | 15, _ => rfl
  | 16, _ => rfl
  | 17, _ => rfl
  | 18, _ => rfl
  | j + 19, h => exact absurd h (by omega)
theorem wi_Machine : ∀ w ∈ u_ws R_Machine F_Machine 19, w ∈ tb := by
  intro w h
  obtain ⟨j, hj, rfl⟩ := List.mem_map.mp h
  have hj := List.mem_range.mp hj
  match j, hj with
  | 0, _ => exact tb_mem (List.mem_append_right _ (tm_3 (List.mem_of_getElem? (i := 84) rfl))) rfl
  | 1, _ => exact tb_mem (List.mem_append_right _ (tm_3 (List.mem_of_getElem? (i := 86) rfl))) rfl
  | 2, _ => exact tb_mem (List.mem_append_right _ (tm_3 (List.mem_of_getElem? (i := 88) rfl))) rfl
  | 3, _ => exact tb_mem (List.mem_append_right _ (tm_3 (List.mem_of_getElem? (i := 90) rfl))) rfl
  | 4, _ => exact tb_mem (List.mem_append_right _ (tm_3 (List.mem_of_getElem? (i := 92) rfl))) rfl
  | 5, _ => exact tb_mem (List.mem_append_right _ (tm_3 (List.mem_of_getElem? (i := 94) rfl))) rfl
  | 6, _ => exact tb_mem (List.mem_append_right _ (tm_3 (List.mem_of_getElem? (i := 96) rfl))) rfl
  | 7, _ => exact tb_mem (List.mem_append_right _ (tm_3 (List.mem_of_getElem? (i := 98) rfl))) rfl
  | 8, _ => exact tb_mem (List.mem_append_right _ (tm_3 (List.mem_of_getElem? (i := 100) rfl))) rfl
  | 9, _ => exact tb_mem (List.mem_append_right _ (tm_3 (List.mem_of_getElem? (i := 102) rfl))) rfl
  | 10, _ => exact tb_mem (List.mem_append_right _ (tm_3 (List.mem_of_getElem? (i := 104) rfl))) rfl
  | 11, _ => exact tb_mem (List.mem_append_right _ (tm_3 (List.mem_of_getElem? (i := 106) rfl))) rfl
  | 12, _ => exact tb_mem (List.mem_append_right _ (tm_3 (List.mem_of_getElem? (i := 108) rfl))) rfl
  | 13, _ => exact tb_mem (List.mem_append_right _ (tm_3 (List.mem_of_getElem? (i := 110) rfl))) rfl
  | 14, _ => exact tb_mem (List.mem_append_right _ (tm_3 (List.mem_of_getElem? (i := 112) rfl))) rfl
  | 15, _ => exact tb_mem (List.mem_append_right _ (tm_3 (List.mem_of_getElem? (i := 114) rfl))) rfl
  | 16, _ => exact tb_mem (List.mem_append_right _ (tm_3 (List.mem_of_getElem? (i := 116) rfl))) rfl
  | 17, _ => exact tb_mem (List.mem_append_right _ (tm_3 (List.mem_of_getElem? (i := 118) rfl))) rfl
  | 18, _ => exact tb_mem (List.mem_append_right _ (tm_3 (List.mem_of_getElem? (i := 120) rfl))) rfl
  | j + 19, h => exact absurd h (by omega)
def F_M : u_T := fun k => match k with
  | 0 => ("WasmMergeModel", "row", "[B", true)
  | 1 => ("WasmMergeModel", "unit", "[LWasmMergeModel$Unit;", true)
  | 2 => ("WasmMergeModel", "rows", "I", false)
  | 3 => ("WasmMergeModel", "units", "I", false)
  | 4 => ("WasmMergeModel", "fault", "I", false)
  | 5 => ("WasmMergeModel", "trap", "I", false)
  | 6 => ("WasmMergeModel", "thrown", "I", false)
  | 7 => ("WasmMergeModel", "isMerged", "Z", false)
  | 8 => ("WasmMergeModel", "isRun", "Z", false)
  | 9 => ("WasmMergeModel", "u", "LWasmMergeModel$Unit;", false)
  | 10 => ("WasmMergeModel", "at", "I", false)
  | 11 => ("WasmMergeModel", "end", "I", false)
  | 12 => ("WasmMergeModel", "isOver", "Z", false)
  | 13 => ("WasmMergeModel", "isWrong", "Z", false)
  | 14 => ("WasmMergeModel", "nameAt", "I", false)
  | 15 => ("WasmMergeModel", "limitFirst", "J", false)
  | 16 => ("WasmMergeModel", "limitSecond", "J", false)
  | 17 => ("WasmMergeModel", "initialOp", "I", false)
  | 18 => ("WasmMergeModel", "initialValue", "J", false)
  | 19 => ("WasmMergeModel", "blockAt", "[I", true)
  | 20 => ("WasmMergeModel", "blockKind", "[I", true)
  | 21 => ("WasmMergeModel", "vt", "[I", true)
  | 22 => ("WasmMergeModel", "bTakes", "[I", true)
  | 23 => ("WasmMergeModel", "bLeaves", "[I", true)
  | 24 => ("WasmMergeModel", "bHeight", "[I", true)
  | 25 => ("WasmMergeModel", "bOp", "[I", true)
  | 26 => ("WasmMergeModel", "bDead", "[Z", true)
  | 27 => ("WasmMergeModel", "high", "I", false)
  | 28 => ("WasmMergeModel", "blocks", "I", false)
  | 29 => ("WasmMergeModel", "fits", "[I", true)
  | 30 => ("WasmMergeModel", "globals", "[J", true)
  | 31 => ("WasmMergeModel", "stack", "[J", true)
  | 32 => ("WasmMergeModel", "given", "[J", true)
  | 33 => ("WasmMergeModel", "output", "[J", true)
  | 34 => ("WasmMergeModel", "memory", "[B", true)
  | 35 => ("WasmMergeModel", "table", "[I", true)
  | 36 => ("WasmMergeModel", "labelAt", "[I", true)
  | 37 => ("WasmMergeModel", "labelHigh", "[I", true)
  | 38 => ("WasmMergeModel", "labelLeaves", "[I", true)
  | 39 => ("WasmMergeModel", "labelOp", "[I", true)
  | 40 => ("WasmMergeModel", "pages", "I", false)
  | 41 => ("WasmMergeModel", "memoryMost", "I", false)
  | 42 => ("WasmMergeModel", "tableSize", "I", false)
  | 43 => ("WasmMergeModel", "top", "I", false)
  | 44 => ("WasmMergeModel", "labels", "I", false)
  | 45 => ("WasmMergeModel", "calls", "I", false)
  | 46 => ("WasmMergeModel", "fuel", "I", false)
  | 47 => ("WasmMergeModel", "givenMany", "I", false)
  | _ => ("WasmMergeModel", "outputs", "I", false)
def t_M : Nat → FieldType := fun k => match k with
  | 0 => .array (.byte)
  | 1 => .array (.object "WasmMergeModel$Unit")
  | 2 => .int
  | 3 => .int
  | 4 => .int
  | 5 => .int
  | 6 => .int
  | 7 => .boolean
  | 8 => .boolean
  | 9 => .object "WasmMergeModel$Unit"
  | 10 => .int
  | 11 => .int
  | 12 => .boolean
  | 13 => .boolean
  | 14 => .int
  | 15 => .long
  | 16 => .long
  | 17 => .int
  | 18 => .long
  | 19 => .array (.int)
  | 20 => .array (.int)
  | 21 => .array (.int)
  | 22 => .array (.int)
  | 23 => .array (.int)
  | 24 => .array (.int)
  | 25 => .array (.int)
  | 26 => .array (.boolean)
  | 27 => .int
  | 28 => .int
  | 29 => .array (.int)
  | 30 => .array (.long)
  | 31 => .array (.long)
  | 32 => .array (.long)
  | 33 => .array (.long)
  | 34 => .array (.byte)
  | 35 => .array (.int)
  | 36 => .array (.int)
  | 37 => .array (.int)
  | 38 => .array (.int)
  | 39 => .array (.int)
  | 40 => .int
  | 41 => .int
  | 42 => .int
  | 43 => .int
  | 44 => .int
  | 45 => .int
  | 46 => .int
  | 47 => .int
  | _ => .int
theorem n_M : ∀ a, a < 49 → ∀ b, b < 49 → a ≠ b → (F_M a).2.1 ≠ (F_M b).2.1 := by decide +kernel
theorem t_M_ok : ∀ k, k < 49 → parseFieldDescriptor (F_M k).2.2.1 = some (t_M k) := by decide +kernel
theorem df_M : ∀ j, j < 49 → defaultValue (t_M j) = vp_V [.null, .null, .int 0, .int 0, .int 0, .int 0, .int 0, .int 0, .int 0, .null, .int 0, .int 0, .int 0, .int 0, .int 0, .long 0, .long 0, .int 0, .long 0, .null, .null, .null, .null, .null, .null, .null, .null, .int 0, .int 0, .null, .null, .null, .null, .null, .null, .null, .null, .null, .null, .null, .int 0, .int 0, .int 0, .int 0, .int 0, .int 0, .int 0, .int 0, .int 0] j := by
  intro j hj
  match j, hj with
  | 0, _ => rfl
  | 1, _ => rfl
  | 2, _ => rfl
  | 3, _ => rfl
  | 4, _ => rfl
  | 5, _ => rfl
  | 6, _ => rfl
  | 7, _ => rfl
  | 8, _ => rfl
  | 9, _ => rfl
  | 10, _ => rfl
  | 11, _ => rfl
  | 12, _ => rfl
  | 13, _ => rfl
  | 14, _ => rfl
  | 15, _ => rfl
  | 16, _ => rfl
  | 17, _ => rfl
  | 18, _ => rfl
  | 19, _ => rfl
  | 20, _ => rfl
  | 21, _ => rfl
  | 22, _ => rfl
  | 23, _ => rfl
  | 24, _ => rfl
  | 25, _ => rfl
  | 26, _ => rfl
  | 27, _ => rfl
  | 28, _ => rfl
  | 29, _ => rfl
  | 30, _ => rfl
  | 31, _ => rfl
  | 32, _ => rfl
  | 33, _ => rfl
  | 34, _ => rfl
  | 35, _ => rfl
  | 36, _ => rfl
  | 37, _ => rfl
  | 38, _ => rfl
  | 39, _ => rfl
  | 40, _ => rfl
  | 41, _ => rfl
  | 42, _ => rfl
  | 43, _ => rfl
  | 44, _ => rfl
  | 45, _ => rfl
  | 46, _ => rfl
  | 47, _ => rfl
  | 48, _ => rfl
  | j + 49, h => exact absurd h (by omega)
theorem wi_M : ∀ w ∈ u_ws R_M F_M 49, w ∈ tb := by
  intro w h
  obtain ⟨j, hj, rfl⟩ := List.mem_map.mp h
  have hj := List.mem_range.mp hj
  match j, hj with
  | 0, _ => exact tb_mem (List.mem_append_right _ (tm_10 (List.mem_of_getElem? (i := 49) rfl))) rfl
  | 1, _ => exact tb_mem (List.mem_append_right _ (tm_10 (List.mem_of_getElem? (i := 51) rfl))) rfl
  | 2, _ => exact tb_mem (List.mem_append_right _ (tm_10 (List.mem_of_getElem? (i := 53) rfl))) rfl
  | 3, _ => exact tb_mem (List.mem_append_right _ (tm_10 (List.mem_of_getElem? (i := 55) rfl))) rfl
  | 4, _ => exact tb_mem (List.mem_append_right _ (tm_10 (List.mem_of_getElem? (i := 57) rfl))) rfl
  | 5, _ => exact tb_mem (List.mem_append_right _ (tm_10 (List.mem_of_getElem? (i := 59) rfl))) rfl
  | 6, _ => exact tb_mem (List.mem_append_right _ (tm_10 (List.mem_of_getElem? (i := 61) rfl))) rfl
  | 7, _ => exact tb_mem (List.mem_append_right _ (tm_10 (List.mem_of_getElem? (i := 63) rfl))) rfl
  | 8, _ => exact tb_mem (List.mem_append_right _ (tm_10 (List.mem_of_getElem? (i := 65) rfl))) rfl
  | 9, _ => exact tb_mem (List.mem_append_right _ (tm_10 (List.mem_of_getElem? (i := 67) rfl))) rfl
  | 10, _ => exact tb_mem (List.mem_append_right _ (tm_10 (List.mem_of_getElem? (i := 69) rfl))) rfl
  | 11, _ => exact tb_mem (List.mem_append_right _ (tm_10 (List.mem_of_getElem? (i := 71) rfl))) rfl
  | 12, _ => exact tb_mem (List.mem_append_right _ (tm_10 (List.mem_of_getElem? (i := 73) rfl))) rfl
  | 13, _ => exact tb_mem (List.mem_append_right _ (tm_10 (List.mem_of_getElem? (i := 75) rfl))) rfl
  | 14, _ => exact tb_mem (List.mem_append_right _ (tm_10 (List.mem_of_getElem? (i := 77) rfl))) rfl
  | 15, _ => exact tb_mem (List.mem_append_right _ (tm_10 (List.mem_of_getElem? (i := 79) rfl))) rfl
  | 16, _ => exact tb_mem (List.mem_append_right _ (tm_10 (List.mem_of_getElem? (i := 81) rfl))) rfl
  | 17, _ => exact tb_mem (List.mem_append_right _ (tm_10 (List.mem_of_getElem? (i := 83) rfl))) rfl
  | 18, _ => exact tb_mem (List.mem_append_right _ (tm_10 (List.mem_of_getElem? (i := 85) rfl))) rfl
  | 19, _ => exact tb_mem (List.mem_append_right _ (tm_10 (List.mem_of_getElem? (i := 87) rfl))) rfl
  | 20, _ => exact tb_mem (List.mem_append_right _ (tm_10 (List.mem_of_getElem? (i := 89) rfl))) rfl
  | 21, _ => exact tb_mem (List.mem_append_right _ (tm_10 (List.mem_of_getElem? (i := 91) rfl))) rfl
  | 22, _ => exact tb_mem (List.mem_append_right _ (tm_10 (List.mem_of_getElem? (i := 93) rfl))) rfl
  | 23, _ => exact tb_mem (List.mem_append_right _ (tm_10 (List.mem_of_getElem? (i := 95) rfl))) rfl
  | 24, _ => exact tb_mem (List.mem_append_right _ (tm_10 (List.mem_of_getElem? (i := 97) rfl))) rfl
  | 25, _ => exact tb_mem (List.mem_append_right _ (tm_10 (List.mem_of_getElem? (i := 99) rfl))) rfl
  | 26, _ => exact tb_mem (List.mem_append_right _ (tm_10 (List.mem_of_getElem? (i := 101) rfl))) rfl
  | 27, _ => exact tb_mem (List.mem_append_right _ (tm_10 (List.mem_of_getElem? (i := 103) rfl))) rfl
  | 28, _ => exact tb_mem (List.mem_append_right _ (tm_10 (List.mem_of_getElem? (i := 105) rfl))) rfl
  | 29, _ => exact tb_mem (List.mem_append_right _ (tm_10 (List.mem_of_getElem? (i := 107) rfl))) rfl
  | 30, _ => exact tb_mem (List.mem_append_right _ (tm_10 (List.mem_of_getElem? (i := 109) rfl))) rfl
  | 31, _ => exact tb_mem (List.mem_append_right _ (tm_10 (List.mem_of_getElem? (i := 111) rfl))) rfl
  | 32, _ => exact tb_mem (List.mem_append_right _ (tm_10 (List.mem_of_getElem? (i := 113) rfl))) rfl
  | 33, _ => exact tb_mem (List.mem_append_right _ (tm_10 (List.mem_of_getElem? (i := 115) rfl))) rfl
  | 34, _ => exact tb_mem (List.mem_append_right _ (tm_10 (List.mem_of_getElem? (i := 117) rfl))) rfl
  | 35, _ => exact tb_mem (List.mem_append_right _ (tm_10 (List.mem_of_getElem? (i := 119) rfl))) rfl
  | 36, _ => exact tb_mem (List.mem_append_right _ (tm_10 (List.mem_of_getElem? (i := 121) rfl))) rfl
  | 37, _ => exact tb_mem (List.mem_append_right _ (tm_10 (List.mem_of_getElem? (i := 123) rfl))) rfl
  | 38, _ => exact tb_mem (List.mem_append_right _ (tm_10 (List.mem_of_getElem? (i := 125) rfl))) rfl
  | 39, _ => exact tb_mem (List.mem_append_right _ (tm_10 (List.mem_of_getElem? (i := 127) rfl))) rfl
  | 40, _ => exact tb_mem (List.mem_append_right _ (tm_10 (List.mem_of_getElem? (i := 129) rfl))) rfl
  | 41, _ => exact tb_mem (List.mem_append_right _ (tm_10 (List.mem_of_getElem? (i := 131) rfl))) rfl
  | 42, _ => exact tb_mem (List.mem_append_right _ (tm_10 (List.mem_of_getElem? (i := 133) rfl))) rfl
  | 43, _ => exact tb_mem (List.mem_append_right _ (tm_10 (List.mem_of_getElem? (i := 135) rfl))) rfl
  | 44, _ => exact tb_mem (List.mem_append_right _ (tm_10 (List.mem_of_getElem? (i := 137) rfl))) rfl
  | 45, _ => exact tb_mem (List.mem_append_right _ (tm_10 (List.mem_of_getElem? (i := 139) rfl))) rfl
  | 46, _ => exact tb_mem (List.mem_append_right _ (tm_10 (List.mem_of_getElem? (i := 141) rfl))) rfl
  | 47, _ => exact tb_mem (List.mem_append_right _ (tm_10 (List.mem_of_getElem? (i := 143) rfl))) rfl
  | 48, _ => exact tb_mem (List.mem_append_right _ (tm_10 (List.mem_of_getElem? (i := 145) rfl))) rfl
  | j + 49, h => exact absurd h (by omega)
def F_MUnit : u_T := fun k => match k with
  | 0 => ("WasmMergeModel$Unit", "b", "[B", true)
  | 1 => ("WasmMergeModel$Unit", "size", "I", false)
  | 2 => ("WasmMergeModel$Unit", "types", "I", false)
  | 3 => ("WasmMergeModel$Unit", "imports", "I", false)
  | 4 => ("WasmMergeModel$Unit", "functions", "I", false)
  | 5 => ("WasmMergeModel$Unit", "ownFunctions", "I", false)
  | 6 => ("WasmMergeModel$Unit", "tables", "I", false)
  | 7 => ("WasmMergeModel$Unit", "memories", "I", false)
  | 8 => ("WasmMergeModel$Unit", "globals", "I", false)
  | 9 => ("WasmMergeModel$Unit", "exports", "I", false)
  | 10 => ("WasmMergeModel$Unit", "elements", "I", false)
  | 11 => ("WasmMergeModel$Unit", "datas", "I", false)
  | 12 => ("WasmMergeModel$Unit", "bodies", "I", false)
  | 13 => ("WasmMergeModel$Unit", "start", "I", false)
  | 14 => ("WasmMergeModel$Unit", "params", "[I", true)
  | 15 => ("WasmMergeModel$Unit", "param", "[I", true)
  | 16 => ("WasmMergeModel$Unit", "result", "[I", true)
  | 17 => ("WasmMergeModel$Unit", "iModule", "[I", true)
  | 18 => ("WasmMergeModel$Unit", "iModuleLong", "[I", true)
  | 19 => ("WasmMergeModel$Unit", "iName", "[I", true)
  | 20 => ("WasmMergeModel$Unit", "iNameLong", "[I", true)
  | 21 => ("WasmMergeModel$Unit", "iSort", "[I", true)
  | 22 => ("WasmMergeModel$Unit", "iFirst", "[I", true)
  | 23 => ("WasmMergeModel$Unit", "iSecond", "[J", true)
  | 24 => ("WasmMergeModel$Unit", "fType", "[I", true)
  | 25 => ("WasmMergeModel$Unit", "fImport", "[I", true)
  | 26 => ("WasmMergeModel$Unit", "gType", "[I", true)
  | 27 => ("WasmMergeModel$Unit", "gImport", "[I", true)
  | 28 => ("WasmMergeModel$Unit", "gOp", "[I", true)
  | 29 => ("WasmMergeModel$Unit", "gMutable", "[Z", true)
  | 30 => ("WasmMergeModel$Unit", "gValue", "[J", true)
  | 31 => ("WasmMergeModel$Unit", "tImport", "I", false)
  | 32 => ("WasmMergeModel$Unit", "tFirst", "I", false)
  | 33 => ("WasmMergeModel$Unit", "mImport", "I", false)
  | 34 => ("WasmMergeModel$Unit", "mFirst", "I", false)
  | 35 => ("WasmMergeModel$Unit", "tSecond", "J", false)
  | 36 => ("WasmMergeModel$Unit", "mSecond", "J", false)
  | 37 => ("WasmMergeModel$Unit", "eName", "[I", true)
  | 38 => ("WasmMergeModel$Unit", "eNameLong", "[I", true)
  | 39 => ("WasmMergeModel$Unit", "eSort", "[I", true)
  | 40 => ("WasmMergeModel$Unit", "eIndex", "[I", true)
  | 41 => ("WasmMergeModel$Unit", "sOp", "[I", true)
  | 42 => ("WasmMergeModel$Unit", "sMany", "[I", true)
  | 43 => ("WasmMergeModel$Unit", "sAt", "[I", true)
  | 44 => ("WasmMergeModel$Unit", "sIndex", "[I", true)
  | 45 => ("WasmMergeModel$Unit", "dOp", "[I", true)
  | 46 => ("WasmMergeModel$Unit", "dMany", "[I", true)
  | 47 => ("WasmMergeModel$Unit", "dAt", "[I", true)
  | 48 => ("WasmMergeModel$Unit", "dIndex", "[I", true)
  | 49 => ("WasmMergeModel$Unit", "sValue", "[J", true)
  | 50 => ("WasmMergeModel$Unit", "dValue", "[J", true)
  | 51 => ("WasmMergeModel$Unit", "bAt", "[I", true)
  | 52 => ("WasmMergeModel$Unit", "bEnd", "[I", true)
  | 53 => ("WasmMergeModel$Unit", "bLocals", "[I", true)
  | 54 => ("WasmMergeModel$Unit", "local", "[I", true)
  | 55 => ("WasmMergeModel$Unit", "otherwise", "[I", true)
  | _ => ("WasmMergeModel$Unit", "ends", "[I", true)
def t_MUnit : Nat → FieldType := fun k => match k with
  | 0 => .array (.byte)
  | 1 => .int
  | 2 => .int
  | 3 => .int
  | 4 => .int
  | 5 => .int
  | 6 => .int
  | 7 => .int
  | 8 => .int
  | 9 => .int
  | 10 => .int
  | 11 => .int
  | 12 => .int
  | 13 => .int
  | 14 => .array (.int)
  | 15 => .array (.int)
  | 16 => .array (.int)
  | 17 => .array (.int)
  | 18 => .array (.int)
  | 19 => .array (.int)
  | 20 => .array (.int)
  | 21 => .array (.int)
  | 22 => .array (.int)
  | 23 => .array (.long)
  | 24 => .array (.int)
  | 25 => .array (.int)
  | 26 => .array (.int)
  | 27 => .array (.int)
  | 28 => .array (.int)
  | 29 => .array (.boolean)
  | 30 => .array (.long)
  | 31 => .int
  | 32 => .int
  | 33 => .int
  | 34 => .int
  | 35 => .long
  | 36 => .long
  | 37 => .array (.int)
  | 38 => .array (.int)
  | 39 => .array (.int)
  | 40 => .array (.int)
  | 41 => .array (.int)
  | 42 => .array (.int)
  | 43 => .array (.int)
  | 44 => .array (.int)
  | 45 => .array (.int)
  | 46 => .array (.int)
  | 47 => .array (.int)
  | 48 => .array (.int)
  | 49 => .array (.long)
  | 50 => .array (.long)
  | 51 => .array (.int)
  | 52 => .array (.int)
  | 53 => .array (.int)
  | 54 => .array (.int)
  | 55 => .array (.int)
  | _ => .array (.int)
theorem n_MUnit : ∀ a, a < 57 → ∀ b, b < 57 → a ≠ b → (F_MUnit a).2.1 ≠ (F_MUnit b).2.1 := by decide +kernel
theorem t_MUnit_ok : ∀ k, k < 57 → parseFieldDescriptor (F_MUnit k).2.2.1 = some (t_MUnit k) := by decide +kernel
theorem df_MUnit : ∀ j, j < 57 → defaultValue (t_MUnit j) = vp_V [.null, .int 0, .int 0, .int 0, .int 0, .int 0, .int 0, .int 0, .int 0, .int 0, .int 0, .int 0, .int 0, .int 0, .null, .null, .null, .null, .null, .null, .null, .null, .null, .null, .null, .null, .null, .null, .null, .null, .null, .int 0, .int 0, .int 0, .int 0, .long 0, .long 0, .null, .null, .null, .null, .null, .null, .null, .null, .null, .null, .null, .null, .null, .null, .null, .null, .null, .null, .null, .null] j := by
  intro j hj
  match j, hj with
  | 0, _ => rfl
  | 1, _ => rfl
  | 2, _ => rfl
  | 3, _ => rfl
  | 4, _ => rfl
  | 5, _ => rfl
  | 6, _ => rfl
  | 7, _ => rfl
  | 8, _ => rfl
  | 9, _ => rfl
  | 10, _ => rfl
  | 11, _ => rfl
  | 12, _ => rfl
  | 13, _ => rfl
  | 14, _ => rfl
  | 15, _ => rfl
  | 16, _ => rfl
  | 17, _ => rfl
  | 18, _ => rfl
  | 19, _ => rfl
  | 20, _ => rfl
  | 21, _ => rfl
  | 22, _ => rfl
  | 23, _ => rfl
  | 24, _ => rfl
  | 25, _ => rfl
  | 26, _ => rfl
  | 27, _ => rfl
  | 28, _ => rfl
  | 29, _ => rfl
  | 30, _ => rfl
  | 31, _ => rfl
  | 32, _ => rfl
  | 33, _ => rfl
  | 34, _ => rfl
  | 35, _ => rfl
  | 36, _ => rfl
  | 37, _ => rfl
  | 38, _ => rfl
  | 39, _ => rfl
  | 40, _ => rfl
  | 41, _ => rfl
  | 42, _ => rfl
  | 43, _ => rfl
  | 44, _ => rfl
  | 45, _ => rfl
  | 46, _ => rfl
  | 47, _ => rfl
  | 48, _ => rfl
  | 49, _ => rfl
  | 50, _ => rfl
  | 51, _ => rfl
  | 52, _ => rfl
  | 53, _ => rfl
  | 54, _ => rfl
  | 55, _ => rfl
  | 56, _ => rfl
  | j + 57, h => exact absurd h (by omega)
theorem wi_MUnit : ∀ w ∈ u_ws R_MUnit F_MUnit 57, w ∈ tb := by
  intro w h
  obtain ⟨j, hj, rfl⟩ := List.mem_map.mp h
  have hj := List.mem_range.mp hj
  match j, hj with
  | 0, _ => exact tb_mem (List.mem_append_right _ (tm_9 (List.mem_of_getElem? (i := 123) rfl))) rfl
  | 1, _ => exact tb_mem (List.mem_append_right _ (tm_9 (List.mem_of_getElem? (i := 125) rfl))) rfl
  | 2, _ => exact tb_mem (List.mem_append_right _ (tm_9 (List.mem_of_getElem? (i := 127) rfl))) rfl
  | 3, _ => exact tb_mem (List.mem_append_right _ (tm_9 (List.mem_of_getElem? (i := 129) rfl))) rfl
  | 4, _ => exact tb_mem (List.mem_append_right _ (tm_9 (List.mem_of_getElem? (i := 131) rfl))) rfl
  | 5, _ => exact tb_mem (List.mem_append_right _ (tm_9 (List.mem_of_getElem? (i := 133) rfl))) rfl
  | 6, _ => exact tb_mem (List.mem_append_right _ (tm_9 (List.mem_of_getElem? (i := 135) rfl))) rfl
  | 7, _ => exact tb_mem (List.mem_append_right _ (tm_9 (List.mem_of_getElem? (i := 137) rfl))) rfl
  | 8, _ => exact tb_mem (List.mem_append_right _ (tm_9 (List.mem_of_getElem? (i := 139) rfl))) rfl
  | 9, _ => exact tb_mem (List.mem_append_right _ (tm_9 (List.mem_of_getElem? (i := 141) rfl))) rfl
  | 10, _ => exact tb_mem (List.mem_append_right _ (tm_9 (List.mem_of_getElem? (i := 143) rfl))) rfl
  | 11, _ => exact tb_mem (List.mem_append_right _ (tm_9 (List.mem_of_getElem? (i := 145) rfl))) rfl
  | 12, _ => exact tb_mem (List.mem_append_right _ (tm_9 (List.mem_of_getElem? (i := 147) rfl))) rfl
  | 13, _ => exact tb_mem (List.mem_append_right _ (tm_9 (List.mem_of_getElem? (i := 149) rfl))) rfl
  | 14, _ => exact tb_mem (List.mem_append_right _ (tm_9 (List.mem_of_getElem? (i := 151) rfl))) rfl
  | 15, _ => exact tb_mem (List.mem_append_right _ (tm_9 (List.mem_of_getElem? (i := 153) rfl))) rfl
  | 16, _ => exact tb_mem (List.mem_append_right _ (tm_9 (List.mem_of_getElem? (i := 155) rfl))) rfl
  | 17, _ => exact tb_mem (List.mem_append_right _ (tm_9 (List.mem_of_getElem? (i := 157) rfl))) rfl
  | 18, _ => exact tb_mem (List.mem_append_right _ (tm_9 (List.mem_of_getElem? (i := 159) rfl))) rfl
  | 19, _ => exact tb_mem (List.mem_append_right _ (tm_9 (List.mem_of_getElem? (i := 161) rfl))) rfl
  | 20, _ => exact tb_mem (List.mem_append_right _ (tm_9 (List.mem_of_getElem? (i := 163) rfl))) rfl
  | 21, _ => exact tb_mem (List.mem_append_right _ (tm_9 (List.mem_of_getElem? (i := 165) rfl))) rfl
  | 22, _ => exact tb_mem (List.mem_append_right _ (tm_9 (List.mem_of_getElem? (i := 167) rfl))) rfl
  | 23, _ => exact tb_mem (List.mem_append_right _ (tm_9 (List.mem_of_getElem? (i := 169) rfl))) rfl
  | 24, _ => exact tb_mem (List.mem_append_right _ (tm_9 (List.mem_of_getElem? (i := 171) rfl))) rfl
  | 25, _ => exact tb_mem (List.mem_append_right _ (tm_9 (List.mem_of_getElem? (i := 173) rfl))) rfl
  | 26, _ => exact tb_mem (List.mem_append_right _ (tm_9 (List.mem_of_getElem? (i := 175) rfl))) rfl
  | 27, _ => exact tb_mem (List.mem_append_right _ (tm_9 (List.mem_of_getElem? (i := 177) rfl))) rfl
  | 28, _ => exact tb_mem (List.mem_append_right _ (tm_9 (List.mem_of_getElem? (i := 179) rfl))) rfl
  | 29, _ => exact tb_mem (List.mem_append_right _ (tm_9 (List.mem_of_getElem? (i := 181) rfl))) rfl
  | 30, _ => exact tb_mem (List.mem_append_right _ (tm_9 (List.mem_of_getElem? (i := 183) rfl))) rfl
  | 31, _ => exact tb_mem (List.mem_append_right _ (tm_9 (List.mem_of_getElem? (i := 185) rfl))) rfl
  | 32, _ => exact tb_mem (List.mem_append_right _ (tm_9 (List.mem_of_getElem? (i := 187) rfl))) rfl
  | 33, _ => exact tb_mem (List.mem_append_right _ (tm_9 (List.mem_of_getElem? (i := 189) rfl))) rfl
  | 34, _ => exact tb_mem (List.mem_append_right _ (tm_9 (List.mem_of_getElem? (i := 191) rfl))) rfl
  | 35, _ => exact tb_mem (List.mem_append_right _ (tm_9 (List.mem_of_getElem? (i := 193) rfl))) rfl
  | 36, _ => exact tb_mem (List.mem_append_right _ (tm_9 (List.mem_of_getElem? (i := 195) rfl))) rfl
  | 37, _ => exact tb_mem (List.mem_append_right _ (tm_9 (List.mem_of_getElem? (i := 197) rfl))) rfl
  | 38, _ => exact tb_mem (List.mem_append_right _ (tm_9 (List.mem_of_getElem? (i := 199) rfl))) rfl
  | 39, _ => exact tb_mem (List.mem_append_right _ (tm_9 (List.mem_of_getElem? (i := 201) rfl))) rfl
  | 40, _ => exact tb_mem (List.mem_append_right _ (tm_9 (List.mem_of_getElem? (i := 203) rfl))) rfl
  | 41, _ => exact tb_mem (List.mem_append_right _ (tm_9 (List.mem_of_getElem? (i := 205) rfl))) rfl
  | 42, _ => exact tb_mem (List.mem_append_right _ (tm_9 (List.mem_of_getElem? (i := 207) rfl))) rfl
  | 43, _ => exact tb_mem (List.mem_append_right _ (tm_9 (List.mem_of_getElem? (i := 209) rfl))) rfl
  | 44, _ => exact tb_mem (List.mem_append_right _ (tm_9 (List.mem_of_getElem? (i := 211) rfl))) rfl
  | 45, _ => exact tb_mem (List.mem_append_right _ (tm_9 (List.mem_of_getElem? (i := 213) rfl))) rfl
  | 46, _ => exact tb_mem (List.mem_append_right _ (tm_9 (List.mem_of_getElem? (i := 215) rfl))) rfl
  | 47, _ => exact tb_mem (List.mem_append_right _ (tm_9 (List.mem_of_getElem? (i := 217) rfl))) rfl
  | 48, _ => exact tb_mem (List.mem_append_right _ (tm_9 (List.mem_of_getElem? (i := 219) rfl))) rfl
  | 49, _ => exact tb_mem (List.mem_append_right _ (tm_9 (List.mem_of_getElem? (i := 221) rfl))) rfl
  | 50, _ => exact tb_mem (List.mem_append_right _ (tm_9 (List.mem_of_getElem? (i := 223) rfl))) rfl
  | 51, _ => exact tb_mem (List.mem_append_right _ (tm_9 (List.mem_of_getElem? (i := 225) rfl))) rfl
  | 52, _ => exact tb_mem (List.mem_append_right _ (tm_9 (List.mem_of_getElem? (i := 227) rfl))) rfl
  | 53, _ => exact tb_mem (List.mem_append_right _ (tm_9 (List.mem_of_getElem? (i := 229) rfl))) rfl
  | 54, _ => exact tb_mem (List.mem_append_right _ (tm_9 (List.mem_of_getElem? (i := 231) rfl))) rfl
  | 55, _ => exact tb_mem (List.mem_append_right _ (tm_9 (List.mem_of_getElem? (i := 233) rfl))) rfl
  | 56, _ => exact tb_mem (List.mem_append_right _ (tm_9 (List.mem_of_getElem? (i := 235) rfl))) rfl
  | j + 57, h => exact absurd h (by omega)
def F_MStop : u_T := fun k => match k with
  | 0 => ("java/lang/Throwable", "cause", "Ljava/lang/Throwable;", false)
  | 1 => ("java/lang/Throwable", "stackTrace", "[Ljava/lang/StackTraceElement;", false)
  | 2 => ("java/lang/Throwable", "suppressedExceptions", "Ljava/util/List;", false)
  | 3 => ("java/lang/Throwable", "detailMessage", "Ljava/lang/String;", false)
  | 4 => ("java/lang/Throwable", "backtrace", "Ljava/lang/Object;", false)
  | 5 => ("WasmMergeModel$Stop", "why", "I", true)
  | _ => ("java/lang/Throwable", "depth", "I", false)
def t_MStop : Nat → FieldType := fun k => match k with
  | 0 => .object "java/lang/Throwable"
  | 1 => .array (.object "java/lang/StackTraceElement")
  | 2 => .object "java/util/List"
  | 3 => .object "java/lang/String"
  | 4 => .object "java/lang/Object"
  | 5 => .int
  | _ => .int
theorem n_MStop : ∀ a, a < 7 → ∀ b, b < 7 → a ≠ b → (F_MStop a).2.1 ≠ (F_MStop b).2.1 := by decide +kernel
theorem t_MStop_ok : ∀ k, k < 7 → parseFieldDescriptor (F_MStop k).2.2.1 = some (t_MStop k) := by decide +kernel
theorem df_MStop : ∀ j, j < 7 → defaultValue (t_MStop j) = vp_V [.null, .null, .null, .null, .null, .int 0, .int 0] j := by
  intro j hj
  match j, hj with
  | 0, _ => rfl
  | 1, _ => rfl
  | 2, _ => rfl
  | 3, _ => rfl
  | 4, _ => rfl
  | 5, _ => rfl
  | 6, _ => rfl
  | j + 7, h => exact absurd h (by omega)
theorem wi_MStop : ∀ w ∈ u_ws R_MStop F_MStop 7, w ∈ tb := by
  intro w h
  obtain ⟨j, hj, rfl⟩ := List.mem_map.mp h
  have hj := List.mem_range.mp hj
  match j, hj with
  | 0, _ => exact tb_mem (List.mem_append_right _ (tm_10 (List.mem_of_getElem? (i := 185) rfl))) rfl
  | 1, _ => exact tb_mem (List.mem_append_right _ (tm_10 (List.mem_of_getElem? (i := 186) rfl))) rfl
  | 2, _ => exact tb_mem (List.mem_append_right _ (tm_10 (List.mem_of_getElem? (i := 187) rfl))) rfl
  | 3, _ => exact tb_mem (List.mem_append_right _ (tm_10 (List.mem_of_getElem? (i := 188) rfl))) rfl
  | 4, _ => exact tb_mem (List.mem_append_right _ (tm_10 (List.mem_of_getElem? (i := 189) rfl))) rfl
  | 5, _ => exact tb_mem (List.mem_append_right _ (tm_10 (List.mem_of_getElem? (i := 204) rfl))) rfl
  | 6, _ => exact tb_mem (List.mem_append_right _ (tm_10 (List.mem_of_getElem? (i := 206) rfl))) rfl
  | j + 7, h => exact absurd h (by omega)
abbrev cls : List vw_C := [(R_C, F_C, 13), (R_Module, F_Module, 20), (R_Port, F_Port, 9), (R_Function, F_Function, 5), (R_Part, F_Part, 6), (R_Parser, F_Parser, 11), (R_Reader, F_Reader, 9), (R_Validator, F_Validator, 13), (R_Block, F_Block, 7), (R_Link, F_Link, 18), (R_Machine, F_Machine, 19), (R_M, F_M, 49), (R_MUnit, F_MUnit, 57), (R_MStop, F_MStop, 7)]
