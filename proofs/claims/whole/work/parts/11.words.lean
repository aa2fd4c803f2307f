/-! words -/
theorem wd_0 : (Cond.methodLink "WasmMerge$Port" 1 ⟨"java/lang/Object", "<init>", "()V"⟩) ∈ tb := tb_mem (List.mem_append_right _ (tm_1 (List.mem_of_getElem? (i := 62) rfl))) rfl
theorem wd_1 : (Cond.instanceMethod ⟨"java/lang/Object", "<init>", "()V"⟩) ∈ tb := tb_mem (List.mem_append_right _ (tm_1 (List.mem_of_getElem? (i := 43) rfl))) rfl
theorem wd_2 : (Cond.code ⟨"java/lang/Object", "<init>", "()V"⟩ object_method_1_code 1 none) ∈ tb := tb_mem (List.mem_append_right _ (tm_1 (List.mem_of_getElem? (i := 44) rfl))) rfl
theorem wd_3 : (Cond.methodLink "WasmMerge$Function" 1 ⟨"java/lang/Object", "<init>", "()V"⟩) ∈ tb := tb_mem (List.mem_append_right _ (tm_1 (List.mem_of_getElem? (i := 113) rfl))) rfl
theorem wd_4 : (Cond.methodLink "WasmMerge$Part" 1 ⟨"java/lang/Object", "<init>", "()V"⟩) ∈ tb := tb_mem (List.mem_append_right _ (tm_1 (List.mem_of_getElem? (i := 141) rfl))) rfl
theorem wd_5 : (Cond.methodLink "WasmMerge$Block" 1 ⟨"java/lang/Object", "<init>", "()V"⟩) ∈ tb := tb_mem (List.mem_append_right _ (tm_2 (List.mem_of_getElem? (i := 157) rfl))) rfl
theorem wd_6 : (Cond.methodLink "WasmMerge$Reader" 3 ⟨"java/lang/Object", "<init>", "()V"⟩) ∈ tb := tb_mem (List.mem_append_right _ (tm_2 (List.mem_of_getElem? (i := 64) rfl))) rfl
theorem wd_7 : (Cond.arrayClass .byte) ∈ tb := tb_mem (List.mem_append_right _ (tm_1 (List.mem_of_getElem? (i := 106) rfl))) rfl
theorem wd_8 : (Cond.fieldLink "WasmMerge$Reader" 9 "WasmMerge$Reader" "bytes" "[B") ∈ tb := tb_mem (List.mem_append_right _ (tm_2 (List.mem_of_getElem? (i := 65) rfl))) rfl
theorem wd_9 : (Cond.arrayClass .int) ∈ tb := tb_mem (List.mem_append_right _ (tm_1 (List.mem_of_getElem? (i := 108) rfl))) rfl
theorem wd_10 : (Cond.fieldLink "WasmMerge$Reader" 15 "WasmMerge$Reader" "labels" "[I") ∈ tb := tb_mem (List.mem_append_right _ (tm_2 (List.mem_of_getElem? (i := 79) rfl))) rfl
def nx_words : List Cond := []
def ao_list : List String := []
def st_list : List (String × Nat × String) := []
def no_list : List (String × String) := []
/-- words that stay when tables warm, though the kit's calls don't carry them -/
def nx_kind : Cond → Bool
  | .methodLinkNest .. => true
  | .fieldLinkNest .. => true
  | .declares _ => true
  | .castable .. => true
  | _ => false
theorem nx_ok : ∀ w ∈ nx_words, nx_kind w = true := List.all_eq_true.mp (by decide +kernel)
theorem nx_warm {w : Cond} (hk : nx_kind w = true) {s U : State} (hW : s.WarmedH U.vm) (h : va_Nw w s) : va_Nw w U := by
  cases w <;> first | exact va_Nw.warmM hW h | exact va_Nw.warmF hW h | exact va_Nw.warmD hW h | exact va_Nw.warmC hW h | cases hk
/-- what the contracts carry beside the words -/
def tw_X (U : State) : Prop := (∀ w ∈ nx_words, va_Nw w U) ∧ (∀ C ∈ ao_list, va_AO C U) ∧ (∀ q ∈ st_list, ∃ a, vk_R q.1 q.2.1 q.2.2 a U) ∧ (∀ q ∈ no_list, tw_no q.1 q.2 U)
theorem tw_X.warm {s U : State} (hW : s.WarmedH U.vm) (h : tw_X s) : tw_X U :=
  ⟨fun w hw => nx_warm (nx_ok w hw) hW (h.1 w hw), fun C hC => (h.2.1 C hC).moved hW.alike, fun q hq => let ⟨a, ha⟩ := h.2.2.1 q hq; ⟨a, ha.warm hW⟩, fun q hq => (h.2.2.2 q hq).moved hW.alike⟩
theorem tw_X.same {u U : State} (hv : U.vm = u.vm) (h : tw_X u) : tw_X U := h.warm (by rw [hv]; exact State.WarmedH.refl u)
abbrev b_Port_init : ByteArray := prog_10_method_1_code
def y_Port_init : MethodName := ⟨"WasmMerge$Port", "<init>", "()V"⟩
def ws_Port_init : List Cond := Cond.code ⟨"WasmMerge$Port", "<init>", "()V"⟩ prog_10_method_1_code 1 none :: tb
abbrev b_Function_init : ByteArray := prog_3_method_1_code
def y_Function_init : MethodName := ⟨"WasmMerge$Function", "<init>", "()V"⟩
def ws_Function_init : List Cond := Cond.code ⟨"WasmMerge$Function", "<init>", "()V"⟩ prog_3_method_1_code 1 none :: tb
abbrev b_Part_init : ByteArray := prog_9_method_1_code
def y_Part_init : MethodName := ⟨"WasmMerge$Part", "<init>", "()V"⟩
def ws_Part_init : List Cond := Cond.code ⟨"WasmMerge$Part", "<init>", "()V"⟩ prog_9_method_1_code 1 none :: tb
abbrev b_Block_init : ByteArray := prog_2_method_1_code
def y_Block_init : MethodName := ⟨"WasmMerge$Block", "<init>", "()V"⟩
def ws_Block_init : List Cond := Cond.code ⟨"WasmMerge$Block", "<init>", "()V"⟩ prog_2_method_1_code 1 none :: tb
abbrev b_Reader_init : ByteArray := prog_11_method_1_code
def y_Reader_init : MethodName := ⟨"WasmMerge$Reader", "<init>", "()V"⟩
def ws_Reader_init : List Cond := Cond.code ⟨"WasmMerge$Reader", "<init>", "()V"⟩ prog_11_method_1_code 1 none :: tb
