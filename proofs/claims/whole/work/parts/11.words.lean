/-! words -/
theorem wd_0 : (Cond.methodLink "WasmMerge$Port" 1 ⟨"java/lang/Object", "<init>", "()V"⟩) ∈ tb := tb_mem (List.mem_append_right _ (tm_1 (List.mem_of_getElem? (i := 62) rfl))) rfl
theorem wd_1 : (Cond.instanceMethod ⟨"java/lang/Object", "<init>", "()V"⟩) ∈ tb := tb_mem (List.mem_append_right _ (tm_1 (List.mem_of_getElem? (i := 43) rfl))) rfl
theorem wd_2 : (Cond.code ⟨"java/lang/Object", "<init>", "()V"⟩ object_method_1_code 1 none) ∈ tb := tb_mem (List.mem_append_right _ (tm_1 (List.mem_of_getElem? (i := 44) rfl))) rfl
theorem wd_3 : (Cond.methodLink "WasmMerge$Function" 1 ⟨"java/lang/Object", "<init>", "()V"⟩) ∈ tb := tb_mem (List.mem_append_right _ (tm_1 (List.mem_of_getElem? (i := 113) rfl))) rfl
theorem wd_4 : (Cond.methodLink "WasmMerge$Part" 1 ⟨"java/lang/Object", "<init>", "()V"⟩) ∈ tb := tb_mem (List.mem_append_right _ (tm_1 (List.mem_of_getElem? (i := 141) rfl))) rfl
theorem wd_5 : (Cond.methodLink "WasmMerge$Block" 1 ⟨"java/lang/Object", "<init>", "()V"⟩) ∈ tb := tb_mem (List.mem_append_right _ (tm_2 (List.mem_of_getElem? (i := 157) rfl))) rfl
theorem wd_6 : (Cond.methodLink "WasmMerge$Reader" 3 ⟨"java/lang/Object", "<init>", "()V"⟩) ∈ tb := tb_mem (List.mem_append_right _ (tm_2 (List.mem_of_getElem? (i := 64) rfl))) rfl
theorem wd_7 : (Cond.arrayClass .byte) ∈ tb := tb_mem (List.mem_append_right _ (tm_1 (List.mem_of_getElem? (i := 106) rfl))) rfl
theorem wd_8 : (Cond.fieldLink "WasmMerge$Reader" 9 "WasmMerge$Reader" "bytes" "[B") ∈ tb := tb_mem (List.mem_append_right _ (tm_2 (List.mem_of_getElem? (i := 65) rfl))) rfl
theorem wd_9 : (Cond.arrayClass .int) ∈ tb := tb_mem (List.mem_append_right _ (tm_1 (List.mem_of_getElem? (i := 108) rfl))) rfl
theorem wd_10 : (Cond.fieldLink "WasmMerge$Reader" 15 "WasmMerge$Reader" "labels" "[I") ∈ tb := tb_mem (List.mem_append_right _ (tm_2 (List.mem_of_getElem? (i := 79) rfl))) rfl
theorem wd_11 : (Cond.methodLink "WasmMerge$Module" 3 ⟨"java/lang/Object", "<init>", "()V"⟩) ∈ tb := tb_mem (List.mem_append_right _ (tm_1 (List.mem_of_getElem? (i := 51) rfl))) rfl
theorem wd_12 : (Cond.fieldLink "WasmMerge$Module" 9 "WasmMerge$Module" "bytes" "[B") ∈ tb := tb_mem (List.mem_append_right _ (tm_1 (List.mem_of_getElem? (i := 172) rfl))) rfl
theorem wd_13 : (Cond.fieldLink "WasmMerge$Module" 15 "WasmMerge$Module" "types" "[I") ∈ tb := tb_mem (List.mem_append_right _ (tm_1 (List.mem_of_getElem? (i := 177) rfl))) rfl
theorem wd_14 : (Cond.classLink "WasmMerge$Module" 19 "WasmMerge$Port") ∈ tb := tb_mem (List.mem_append_right _ (tm_1 (List.mem_of_getElem? (i := 52) rfl))) rfl
theorem wd_15 : (Cond.fieldLink "WasmMerge$Module" 21 "WasmMerge$Module" "imports" "[LWasmMerge$Port;") ∈ tb := tb_mem (List.mem_append_right _ (tm_1 (List.mem_of_getElem? (i := 185) rfl))) rfl
theorem wd_16 : (Cond.classLink "WasmMerge$Module" 25 "WasmMerge$Function") ∈ tb := tb_mem (List.mem_append_right _ (tm_1 (List.mem_of_getElem? (i := 54) rfl))) rfl
theorem wd_17 : (Cond.fieldLink "WasmMerge$Module" 27 "WasmMerge$Module" "functions" "[LWasmMerge$Function;") ∈ tb := tb_mem (List.mem_append_right _ (tm_1 (List.mem_of_getElem? (i := 191) rfl))) rfl
theorem wd_18 : (Cond.classLink "WasmMerge$Module" 31 "WasmMerge$Part") ∈ tb := tb_mem (List.mem_append_right _ (tm_1 (List.mem_of_getElem? (i := 56) rfl))) rfl
theorem wd_19 : (Cond.fieldLink "WasmMerge$Module" 33 "WasmMerge$Module" "globals" "[LWasmMerge$Part;") ∈ tb := tb_mem (List.mem_append_right _ (tm_1 (List.mem_of_getElem? (i := 199) rfl))) rfl
theorem wd_20 : (Cond.fieldLink "WasmMerge$Module" 37 "WasmMerge$Module" "exports" "[LWasmMerge$Port;") ∈ tb := tb_mem (List.mem_append_right _ (tm_1 (List.mem_of_getElem? (i := 209) rfl))) rfl
theorem wd_21 : (Cond.fieldLink "WasmMerge$Module" 40 "WasmMerge$Module" "elements" "[LWasmMerge$Part;") ∈ tb := tb_mem (List.mem_append_right _ (tm_1 (List.mem_of_getElem? (i := 219) rfl))) rfl
theorem wd_22 : (Cond.fieldLink "WasmMerge$Module" 43 "WasmMerge$Module" "data" "[LWasmMerge$Part;") ∈ tb := tb_mem (List.mem_append_right _ (tm_1 (List.mem_of_getElem? (i := 227) rfl))) rfl
theorem wd_23 : (Cond.instantiable "WasmMerge$Port" 9) ∈ tb := tb_mem (List.mem_append_right _ (tm_1 (List.mem_of_getElem? (i := 58) rfl))) rfl
theorem wd_24 : (Cond.initialized "WasmMerge$Port") ∈ tb := tb_mem (List.mem_append_right _ (tm_1 (List.mem_of_getElem? (i := 3) rfl))) rfl
theorem wd_25 : (Cond.code ⟨"WasmMerge$Port", "<init>", "()V"⟩ prog_10_method_1_code 1 none) ∈ tb := tb_mem (List.mem_append_right _ (tm_1 (List.mem_of_getElem? (i := 61) rfl))) rfl
theorem wd_26 : (Cond.instanceMethod ⟨"WasmMerge$Port", "<init>", "()V"⟩) ∈ tb := tb_mem (List.mem_append_right _ (tm_1 (List.mem_of_getElem? (i := 60) rfl))) rfl
theorem wd_27 : (Cond.fieldLink "WasmMerge$Module" 47 "WasmMerge$Module" "table" "LWasmMerge$Port;") ∈ tb := tb_mem (List.mem_append_right _ (tm_1 (List.mem_of_getElem? (i := 235) rfl))) rfl
theorem wd_28 : (Cond.fieldLink "WasmMerge$Module" 51 "WasmMerge$Module" "memory" "LWasmMerge$Port;") ∈ tb := tb_mem (List.mem_append_right _ (tm_2 (List.mem_of_getElem? (i := 1) rfl))) rfl
theorem wd_29 : (Cond.fieldLink "WasmMerge$Module" 54 "WasmMerge$Module" "start" "I") ∈ tb := tb_mem (List.mem_append_right _ (tm_2 (List.mem_of_getElem? (i := 7) rfl))) rfl
theorem wd_30 : (Cond.instantiable "WasmMerge$Function" 5) ∈ tb := tb_mem (List.mem_append_right _ (tm_1 (List.mem_of_getElem? (i := 109) rfl))) rfl
theorem wd_31 : (Cond.initialized "WasmMerge$Function") ∈ tb := tb_mem (List.mem_append_right _ (tm_1 (List.mem_of_getElem? (i := 4) rfl))) rfl
theorem wd_32 : (Cond.code ⟨"WasmMerge$Function", "<init>", "()V"⟩ prog_3_method_1_code 1 none) ∈ tb := tb_mem (List.mem_append_right _ (tm_1 (List.mem_of_getElem? (i := 112) rfl))) rfl
theorem wd_33 : (Cond.instanceMethod ⟨"WasmMerge$Function", "<init>", "()V"⟩) ∈ tb := tb_mem (List.mem_append_right _ (tm_1 (List.mem_of_getElem? (i := 111) rfl))) rfl
theorem wd_34 : (Cond.instantiable "WasmMerge$Part" 6) ∈ tb := tb_mem (List.mem_append_right _ (tm_1 (List.mem_of_getElem? (i := 137) rfl))) rfl
theorem wd_35 : (Cond.initialized "WasmMerge$Part") ∈ tb := tb_mem (List.mem_append_right _ (tm_1 (List.mem_of_getElem? (i := 5) rfl))) rfl
theorem wd_36 : (Cond.code ⟨"WasmMerge$Part", "<init>", "()V"⟩ prog_9_method_1_code 1 none) ∈ tb := tb_mem (List.mem_append_right _ (tm_1 (List.mem_of_getElem? (i := 140) rfl))) rfl
theorem wd_37 : (Cond.instanceMethod ⟨"WasmMerge$Part", "<init>", "()V"⟩) ∈ tb := tb_mem (List.mem_append_right _ (tm_1 (List.mem_of_getElem? (i := 139) rfl))) rfl
def nx_words : List Cond := [.methodLinkNest "WasmMerge$Module" 46 ⟨"WasmMerge$Port", "<init>", "()V"⟩ "WasmMerge", .methodLinkNest "WasmMerge$Module" 58 ⟨"WasmMerge$Function", "<init>", "()V"⟩ "WasmMerge", .methodLinkNest "WasmMerge$Module" 59 ⟨"WasmMerge$Part", "<init>", "()V"⟩ "WasmMerge"]
theorem nx_0 : (Cond.methodLinkNest "WasmMerge$Module" 46 ⟨"WasmMerge$Port", "<init>", "()V"⟩ "WasmMerge") ∈ nx_words := List.mem_of_getElem? (i := 0) rfl
theorem nx_1 : (Cond.methodLinkNest "WasmMerge$Module" 58 ⟨"WasmMerge$Function", "<init>", "()V"⟩ "WasmMerge") ∈ nx_words := List.mem_of_getElem? (i := 1) rfl
theorem nx_2 : (Cond.methodLinkNest "WasmMerge$Module" 59 ⟨"WasmMerge$Part", "<init>", "()V"⟩ "WasmMerge") ∈ nx_words := List.mem_of_getElem? (i := 2) rfl
def ao_list : List String := ["WasmMerge$Port", "WasmMerge$Function", "WasmMerge$Part"]
theorem ao_0 : "WasmMerge$Port" ∈ ao_list := List.mem_of_getElem? (i := 0) rfl
theorem ao_1 : "WasmMerge$Function" ∈ ao_list := List.mem_of_getElem? (i := 1) rfl
theorem ao_2 : "WasmMerge$Part" ∈ ao_list := List.mem_of_getElem? (i := 2) rfl
def st_list : List (String × Nat × String) := []
def no_list : List (String × String) := []
/-- words that stay when tables warm, though the kit's calls don't carry them -/
def nx_kind : Cond → Bool
  | .methodLinkNest .. => true
  | .fieldLinkNest .. => true
  | .declares _ => true
  | .castable .. => true
  | _ => false
theorem nx_ok : ∀ w ∈ nx_words, nx_kind w = true := List.all_eq_true.mp (by decide +kernel)
theorem nx_warm {w : Cond} (hk : nx_kind w = true) {s U : State} (hW : s.WarmedH U.vm) (h : va_Nw w s) : va_Nw w U := by
  cases w <;> first | exact va_Nw.warmM hW h | exact va_Nw.warmF hW h | exact va_Nw.warmD hW h | exact va_Nw.warmC hW h | cases hk
/-- what the contracts carry beside the words -/
def tw_X (U : State) : Prop := (∀ w ∈ nx_words, va_Nw w U) ∧ (∀ C ∈ ao_list, va_AO C U) ∧ (∀ q ∈ st_list, ∃ a, vk_R q.1 q.2.1 q.2.2 a U) ∧ (∀ q ∈ no_list, tw_no q.1 q.2 U)
theorem tw_X.warm {s U : State} (hW : s.WarmedH U.vm) (h : tw_X s) : tw_X U :=
  ⟨fun w hw => nx_warm (nx_ok w hw) hW (h.1 w hw), fun C hC => (h.2.1 C hC).moved hW.alike, fun q hq => let ⟨a, ha⟩ := h.2.2.1 q hq; ⟨a, ha.warm hW⟩, fun q hq => (h.2.2.2 q hq).moved hW.alike⟩
theorem tw_X.same {u U : State} (hv : U.vm = u.vm) (h : tw_X u) : tw_X U := h.warm (by rw [hv]; exact State.WarmedH.refl u)
abbrev b_Port_init : ByteArray := prog_10_method_1_code
def y_Port_init : MethodName := ⟨"WasmMerge$Port", "<init>", "()V"⟩
def ws_Port_init : List Cond := Cond.code ⟨"WasmMerge$Port", "<init>", "()V"⟩ prog_10_method_1_code 1 none :: tb
abbrev b_Function_init : ByteArray := prog_3_method_1_code
def y_Function_init : MethodName := ⟨"WasmMerge$Function", "<init>", "()V"⟩
def ws_Function_init : List Cond := Cond.code ⟨"WasmMerge$Function", "<init>", "()V"⟩ prog_3_method_1_code 1 none :: tb
abbrev b_Part_init : ByteArray := prog_9_method_1_code
def y_Part_init : MethodName := ⟨"WasmMerge$Part", "<init>", "()V"⟩
def ws_Part_init : List Cond := Cond.code ⟨"WasmMerge$Part", "<init>", "()V"⟩ prog_9_method_1_code 1 none :: tb
abbrev b_Block_init : ByteArray := prog_2_method_1_code
def y_Block_init : MethodName := ⟨"WasmMerge$Block", "<init>", "()V"⟩
def ws_Block_init : List Cond := Cond.code ⟨"WasmMerge$Block", "<init>", "()V"⟩ prog_2_method_1_code 1 none :: tb
abbrev b_Reader_init : ByteArray := prog_11_method_1_code
def y_Reader_init : MethodName := ⟨"WasmMerge$Reader", "<init>", "()V"⟩
def ws_Reader_init : List Cond := Cond.code ⟨"WasmMerge$Reader", "<init>", "()V"⟩ prog_11_method_1_code 1 none :: tb
abbrev b_Module_init : ByteArray := prog_6_method_1_code
def y_Module_init : MethodName := ⟨"WasmMerge$Module", "<init>", "()V"⟩
def ws_Module_init : List Cond := Cond.code ⟨"WasmMerge$Module", "<init>", "()V"⟩ prog_6_method_1_code 2 none :: tb
