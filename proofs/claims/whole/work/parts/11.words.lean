/-! words -/
theorem wd_0 : (Cond.methodLink "WasmMerge$Port" 1 ⟨"java/lang/Object", "<init>", "()V"⟩) ∈ tb := tb_mem (List.mem_append_right _ (tm_1 (List.mem_of_getElem? (i := 62) rfl))) rfl
theorem wd_1 : (Cond.instanceMethod ⟨"java/lang/Object", "<init>", "()V"⟩) ∈ tb := tb_mem (List.mem_append_right _ (tm_1 (List.mem_of_getElem? (i := 43) rfl))) rfl
theorem wd_2 : (Cond.code ⟨"java/lang/Object", "<init>", "()V"⟩ object_method_1_code 1 none) ∈ tb := tb_mem (List.mem_append_right _ (tm_1 (List.mem_of_getElem? (i := 44) rfl))) rfl
theorem wd_3 : (Cond.methodLink "WasmMerge$Function" 1 ⟨"java/lang/Object", "<init>", "()V"⟩) ∈ tb := tb_mem (List.mem_append_right _ (tm_1 (List.mem_of_getElem? (i := 113) rfl))) rfl
theorem wd_4 : (Cond.methodLink "WasmMerge$Part" 1 ⟨"java/lang/Object", "<init>", "()V"⟩) ∈ tb := tb_mem (List.mem_append_right _ (tm_1 (List.mem_of_getElem? (i := 141) rfl))) rfl
theorem wd_5 : (Cond.methodLink "WasmMerge$Block" 1 ⟨"java/lang/Object", "<init>", "()V"⟩) ∈ tb := tb_mem (List.mem_append_right _ (tm_2 (List.mem_of_getElem? (i := 157) rfl))) rfl
theorem wd_6 : (Cond.methodLink "WasmMerge$Reader" 3 ⟨"java/lang/Object", "<init>", "()V"⟩) ∈ tb := tb_mem (List.mem_append_right _ (tm_2 (List.mem_of_getElem? (i := 64) rfl))) rfl
theorem wd_7 : (Cond.arrayClass .byte) ∈ tb := tb_mem (List.mem_append_right _ (tm_1 (List.mem_of_getElem? (i := 106) rfl))) rfl
theorem wd_8 : (Cond.fieldLink "WasmMerge$Reader" 9 "WasmMerge$Reader" "bytes" "[B") ∈ tb := tb_mem (List.mem_append_right _ (tm_2 (List.mem_of_getElem? (i := 65) rfl))) rfl
theorem wd_9 : (Cond.arrayClass .int) ∈ tb := tb_mem (List.mem_append_right _ (tm_1 (List.mem_of_getElem? (i := 108) rfl))) rfl
theorem wd_10 : (Cond.fieldLink "WasmMerge$Reader" 15 "WasmMerge$Reader" "labels" "[I") ∈ tb := tb_mem (List.mem_append_right _ (tm_2 (List.mem_of_getElem? (i := 79) rfl))) rfl
theorem wd_11 : (Cond.methodLink "WasmMerge$Module" 3 ⟨"java/lang/Object", "<init>", "()V"⟩) ∈ tb := tb_mem (List.mem_append_right _ (tm_1 (List.mem_of_getElem? (i := 51) rfl))) rfl
theorem wd_12 : (Cond.fieldLink "WasmMerge$Module" 9 "WasmMerge$Module" "bytes" "[B") ∈ tb := tb_mem (List.mem_append_right _ (tm_1 (List.mem_of_getElem? (i := 172) rfl))) rfl
theorem wd_13 : (Cond.fieldLink "WasmMerge$Module" 15 "WasmMerge$Module" "types" "[I") ∈ tb := tb_mem (List.mem_append_right _ (tm_1 (List.mem_of_getElem? (i := 177) rfl))) rfl
theorem wd_14 : (Cond.classLink "WasmMerge$Module" 19 "WasmMerge$Port") ∈ tb := tb_mem (List.mem_append_right _ (tm_1 (List.mem_of_getElem? (i := 52) rfl))) rfl
theorem wd_15 : (Cond.fieldLink "WasmMerge$Module" 21 "WasmMerge$Module" "imports" "[LWasmMerge$Port;") ∈ tb := tb_mem (List.mem_append_right _ (tm_1 (List.mem_of_getElem? (i := 185) rfl))) rfl
theorem wd_16 : (Cond.classLink "WasmMerge$Module" 25 "WasmMerge$Function") ∈ tb := tb_mem (List.mem_append_right _ (tm_1 (List.mem_of_getElem? (i := 54) rfl))) rfl
theorem wd_17 : (Cond.fieldLink "WasmMerge$Module" 27 "WasmMerge$Module" "functions" "[LWasmMerge$Function;") ∈ tb := tb_mem (List.mem_append_right _ (tm_1 (List.mem_of_getElem? (i := 191) rfl))) rfl
theorem wd_18 : (Cond.classLink "WasmMerge$Module" 31 "WasmMerge$Part") ∈ tb := tb_mem (List.mem_append_right _ (tm_1 (List.mem_of_getElem? (i := 56) rfl))) rfl
theorem wd_19 : (Cond.fieldLink "WasmMerge$Module" 33 "WasmMerge$Module" "globals" "[LWasmMerge$Part;") ∈ tb := tb_mem (List.mem_append_right _ (tm_1 (List.mem_of_getElem? (i := 199) rfl))) rfl
theorem wd_20 : (Cond.fieldLink "WasmMerge$Module" 37 "WasmMerge$Module" "exports" "[LWasmMerge$Port;") ∈ tb := tb_mem (List.mem_append_right _ (tm_1 (List.mem_of_getElem? (i := 209) rfl))) rfl
theorem wd_21 : (Cond.fieldLink "WasmMerge$Module" 40 "WasmMerge$Module" "elements" "[LWasmMerge$Part;") ∈ tb := tb_mem (List.mem_append_right _ (tm_1 (List.mem_of_getElem? (i := 219) rfl))) rfl
theorem wd_22 : (Cond.fieldLink "WasmMerge$Module" 43 "WasmMerge$Module" "data" "[LWasmMerge$Part;") ∈ tb := tb_mem (List.mem_append_right _ (tm_1 (List.mem_of_getElem? (i := 227) rfl))) rfl
theorem wd_23 : (Cond.instantiable "WasmMerge$Port" 9) ∈ tb := tb_mem (List.mem_append_right _ (tm_1 (List.mem_of_getElem? (i := 58) rfl))) rfl
theorem wd_24 : (Cond.initialized "WasmMerge$Port") ∈ tb := tb_mem (List.mem_append_right _ (tm_1 (List.mem_of_getElem? (i := 3) rfl))) rfl
theorem wd_25 : (Cond.code ⟨"WasmMerge$Port", "<init>", "()V"⟩ prog_10_method_1_code 1 none) ∈ tb := tb_mem (List.mem_append_right _ (tm_1 (List.mem_of_getElem? (i := 61) rfl))) rfl
theorem wd_26 : (Cond.instanceMethod ⟨"WasmMerge$Port", "<init>", "()V"⟩) ∈ tb := tb_mem (List.mem_append_right _ (tm_1 (List.mem_of_getElem? (i := 60) rfl))) rfl
theorem wd_27 : (Cond.fieldLink "WasmMerge$Module" 47 "WasmMerge$Module" "table" "LWasmMerge$Port;") ∈ tb := tb_mem (List.mem_append_right _ (tm_1 (List.mem_of_getElem? (i := 235) rfl))) rfl
theorem wd_28 : (Cond.fieldLink "WasmMerge$Module" 51 "WasmMerge$Module" "memory" "LWasmMerge$Port;") ∈ tb := tb_mem (List.mem_append_right _ (tm_2 (List.mem_of_getElem? (i := 1) rfl))) rfl
theorem wd_29 : (Cond.fieldLink "WasmMerge$Module" 54 "WasmMerge$Module" "start" "I") ∈ tb := tb_mem (List.mem_append_right _ (tm_2 (List.mem_of_getElem? (i := 7) rfl))) rfl
theorem wd_30 : (Cond.instantiable "WasmMerge$Function" 5) ∈ tb := tb_mem (List.mem_append_right _ (tm_1 (List.mem_of_getElem? (i := 109) rfl))) rfl
theorem wd_31 : (Cond.initialized "WasmMerge$Function") ∈ tb := tb_mem (List.mem_append_right _ (tm_1 (List.mem_of_getElem? (i := 4) rfl))) rfl
theorem wd_32 : (Cond.code ⟨"WasmMerge$Function", "<init>", "()V"⟩ prog_3_method_1_code 1 none) ∈ tb := tb_mem (List.mem_append_right _ (tm_1 (List.mem_of_getElem? (i := 112) rfl))) rfl
theorem wd_33 : (Cond.instanceMethod ⟨"WasmMerge$Function", "<init>", "()V"⟩) ∈ tb := tb_mem (List.mem_append_right _ (tm_1 (List.mem_of_getElem? (i := 111) rfl))) rfl
theorem wd_34 : (Cond.instantiable "WasmMerge$Part" 6) ∈ tb := tb_mem (List.mem_append_right _ (tm_1 (List.mem_of_getElem? (i := 137) rfl))) rfl
theorem wd_35 : (Cond.initialized "WasmMerge$Part") ∈ tb := tb_mem (List.mem_append_right _ (tm_1 (List.mem_of_getElem? (i := 5) rfl))) rfl
theorem wd_36 : (Cond.code ⟨"WasmMerge$Part", "<init>", "()V"⟩ prog_9_method_1_code 1 none) ∈ tb := tb_mem (List.mem_append_right _ (tm_1 (List.mem_of_getElem? (i := 140) rfl))) rfl
theorem wd_37 : (Cond.instanceMethod ⟨"WasmMerge$Part", "<init>", "()V"⟩) ∈ tb := tb_mem (List.mem_append_right _ (tm_1 (List.mem_of_getElem? (i := 139) rfl))) rfl
theorem wd_38 : (Cond.methodLink "WasmMerge$Parser" 3 ⟨"java/lang/Object", "<init>", "()V"⟩) ∈ tb := tb_mem (List.mem_append_right _ (tm_2 (List.mem_of_getElem? (i := 58) rfl))) rfl
theorem wd_39 : (Cond.classLink "WasmMerge$Parser" 9 "WasmMerge$Reader") ∈ tb := tb_mem (List.mem_append_right _ (tm_2 (List.mem_of_getElem? (i := 59) rfl))) rfl
theorem wd_40 : (Cond.instantiable "WasmMerge$Reader" 9) ∈ tb := tb_mem (List.mem_append_right _ (tm_2 (List.mem_of_getElem? (i := 60) rfl))) rfl
theorem wd_41 : (Cond.initialized "WasmMerge$Reader") ∈ tb := tb_mem (List.mem_append_right _ (tm_1 (List.mem_of_getElem? (i := 7) rfl))) rfl
theorem wd_42 : (Cond.code ⟨"WasmMerge$Reader", "<init>", "()V"⟩ prog_11_method_1_code 1 none) ∈ tb := tb_mem (List.mem_append_right _ (tm_2 (List.mem_of_getElem? (i := 63) rfl))) rfl
theorem wd_43 : (Cond.instanceMethod ⟨"WasmMerge$Reader", "<init>", "()V"⟩) ∈ tb := tb_mem (List.mem_append_right _ (tm_2 (List.mem_of_getElem? (i := 62) rfl))) rfl
theorem wd_44 : (Cond.fieldLink "WasmMerge$Parser" 12 "WasmMerge$Parser" "reader" "LWasmMerge$Reader;") ∈ tb := tb_mem (List.mem_append_right _ (tm_2 (List.mem_of_getElem? (i := 109) rfl))) rfl
theorem wd_45 : (Cond.fieldLink "WasmMerge$Parser" 18 "WasmMerge$Parser" "kinds" "[I") ∈ tb := tb_mem (List.mem_append_right _ (tm_2 (List.mem_of_getElem? (i := 110) rfl))) rfl
theorem wd_46 : (Cond.classLink "WasmMerge$Parser" 22 "WasmMerge$Port") ∈ tb := tb_mem (List.mem_append_right _ (tm_2 (List.mem_of_getElem? (i := 103) rfl))) rfl
theorem wd_47 : (Cond.fieldLink "WasmMerge$Parser" 25 "WasmMerge$Parser" "sparePort" "LWasmMerge$Port;") ∈ tb := tb_mem (List.mem_append_right _ (tm_2 (List.mem_of_getElem? (i := 111) rfl))) rfl
theorem wd_48 : (Cond.classLink "WasmMerge$Parser" 29 "WasmMerge$Function") ∈ tb := tb_mem (List.mem_append_right _ (tm_2 (List.mem_of_getElem? (i := 105) rfl))) rfl
theorem wd_49 : (Cond.fieldLink "WasmMerge$Parser" 32 "WasmMerge$Parser" "spareFunction" "LWasmMerge$Function;") ∈ tb := tb_mem (List.mem_append_right _ (tm_2 (List.mem_of_getElem? (i := 112) rfl))) rfl
theorem wd_50 : (Cond.classLink "WasmMerge$Parser" 36 "WasmMerge$Part") ∈ tb := tb_mem (List.mem_append_right _ (tm_2 (List.mem_of_getElem? (i := 107) rfl))) rfl
theorem wd_51 : (Cond.fieldLink "WasmMerge$Parser" 39 "WasmMerge$Parser" "sparePart" "LWasmMerge$Part;") ∈ tb := tb_mem (List.mem_append_right _ (tm_2 (List.mem_of_getElem? (i := 113) rfl))) rfl
theorem wd_52 : (Cond.fieldLink "WasmMerge$Parser" 43 "WasmMerge$Parser" "module" "LWasmMerge$Module;") ∈ tb := tb_mem (List.mem_append_right _ (tm_2 (List.mem_of_getElem? (i := 114) rfl))) rfl
theorem wd_53 : (Cond.methodLink "WasmMerge$Validator" 3 ⟨"java/lang/Object", "<init>", "()V"⟩) ∈ tb := tb_mem (List.mem_append_right _ (tm_2 (List.mem_of_getElem? (i := 148) rfl))) rfl
theorem wd_54 : (Cond.classLink "WasmMerge$Validator" 9 "WasmMerge$Reader") ∈ tb := tb_mem (List.mem_append_right _ (tm_2 (List.mem_of_getElem? (i := 149) rfl))) rfl
theorem wd_55 : (Cond.fieldLink "WasmMerge$Validator" 12 "WasmMerge$Validator" "reader" "LWasmMerge$Reader;") ∈ tb := tb_mem (List.mem_append_right _ (tm_2 (List.mem_of_getElem? (i := 181) rfl))) rfl
theorem wd_56 : (Cond.fieldLink "WasmMerge$Validator" 18 "WasmMerge$Validator" "stack" "[I") ∈ tb := tb_mem (List.mem_append_right _ (tm_2 (List.mem_of_getElem? (i := 186) rfl))) rfl
theorem wd_57 : (Cond.classLink "WasmMerge$Validator" 22 "WasmMerge$Block") ∈ tb := tb_mem (List.mem_append_right _ (tm_2 (List.mem_of_getElem? (i := 151) rfl))) rfl
theorem wd_58 : (Cond.fieldLink "WasmMerge$Validator" 24 "WasmMerge$Validator" "blocks" "[LWasmMerge$Block;") ∈ tb := tb_mem (List.mem_append_right _ (tm_2 (List.mem_of_getElem? (i := 188) rfl))) rfl
theorem wd_59 : (Cond.fieldLink "WasmMerge$Validator" 28 "WasmMerge$Validator" "locals" "[I") ∈ tb := tb_mem (List.mem_append_right _ (tm_2 (List.mem_of_getElem? (i := 191) rfl))) rfl
theorem wd_60 : (Cond.fieldLink "WasmMerge$Validator" 31 "WasmMerge$Validator" "code" "[I") ∈ tb := tb_mem (List.mem_append_right _ (tm_2 (List.mem_of_getElem? (i := 180) rfl))) rfl
theorem wd_61 : (Cond.fieldLink "WasmMerge$Validator" 34 "WasmMerge$Validator" "module" "LWasmMerge$Module;") ∈ tb := tb_mem (List.mem_append_right _ (tm_2 (List.mem_of_getElem? (i := 182) rfl))) rfl
theorem wd_62 : (Cond.instantiable "WasmMerge$Block" 7) ∈ tb := tb_mem (List.mem_append_right _ (tm_2 (List.mem_of_getElem? (i := 153) rfl))) rfl
theorem wd_63 : (Cond.initialized "WasmMerge$Block") ∈ tb := tb_mem (List.mem_append_right _ (tm_1 (List.mem_of_getElem? (i := 9) rfl))) rfl
theorem wd_64 : (Cond.code ⟨"WasmMerge$Block", "<init>", "()V"⟩ prog_2_method_1_code 1 none) ∈ tb := tb_mem (List.mem_append_right _ (tm_2 (List.mem_of_getElem? (i := 156) rfl))) rfl
theorem wd_65 : (Cond.instanceMethod ⟨"WasmMerge$Block", "<init>", "()V"⟩) ∈ tb := tb_mem (List.mem_append_right _ (tm_2 (List.mem_of_getElem? (i := 155) rfl))) rfl
theorem wd_66 : (Cond.fieldLink "WasmMerge$Validator" 39 "WasmMerge$Validator" "block" "LWasmMerge$Block;") ∈ tb := tb_mem (List.mem_append_right _ (tm_2 (List.mem_of_getElem? (i := 190) rfl))) rfl
theorem wd_67 : (Cond.methodLink "WasmMerge$Link" 3 ⟨"java/lang/Object", "<init>", "()V"⟩) ∈ tb := tb_mem (List.mem_append_right _ (tm_2 (List.mem_of_getElem? (i := 225) rfl))) rfl
theorem wd_68 : (Cond.fieldLink "WasmMerge$Link" 9 "WasmMerge$Link" "functionOf" "[I") ∈ tb := tb_mem (List.mem_append_right _ (tm_2 (List.mem_of_getElem? (i := 230) rfl))) rfl
theorem wd_69 : (Cond.fieldLink "WasmMerge$Link" 15 "WasmMerge$Link" "globalOf" "[I") ∈ tb := tb_mem (List.mem_append_right _ (tm_2 (List.mem_of_getElem? (i := 231) rfl))) rfl
theorem wd_70 : (Cond.fieldLink "WasmMerge$Link" 18 "WasmMerge$Link" "signatures" "[I") ∈ tb := tb_mem (List.mem_append_right _ (tm_2 (List.mem_of_getElem? (i := 232) rfl))) rfl
theorem wd_71 : (Cond.fieldLink "WasmMerge$Link" 21 "WasmMerge$Link" "entries" "[I") ∈ tb := tb_mem (List.mem_append_right _ (tm_2 (List.mem_of_getElem? (i := 233) rfl))) rfl
theorem wd_72 : (Cond.fieldLink "WasmMerge$Link" 24 "WasmMerge$Link" "localCounts" "[I") ∈ tb := tb_mem (List.mem_append_right _ (tm_2 (List.mem_of_getElem? (i := 234) rfl))) rfl
theorem wd_73 : (Cond.fieldLink "WasmMerge$Link" 27 "WasmMerge$Link" "types" "[I") ∈ tb := tb_mem (List.mem_append_right _ (tm_2 (List.mem_of_getElem? (i := 235) rfl))) rfl
theorem wd_74 : (Cond.fieldLink "WasmMerge$Link" 30 "WasmMerge$Link" "modules" "[LWasmMerge$Module;") ∈ tb := tb_mem (List.mem_append_right _ (tm_2 (List.mem_of_getElem? (i := 226) rfl))) rfl
theorem wd_75 : (Cond.methodLink "WasmMerge$Machine" 5 ⟨"java/lang/Object", "<init>", "()V"⟩) ∈ tb := tb_mem (List.mem_append_right _ (tm_3 (List.mem_of_getElem? (i := 58) rfl))) rfl
theorem wd_76 : (Cond.classLink "WasmMerge$Machine" 11 "WasmMerge$Reader") ∈ tb := tb_mem (List.mem_append_right _ (tm_3 (List.mem_of_getElem? (i := 59) rfl))) rfl
theorem wd_77 : (Cond.fieldLink "WasmMerge$Machine" 14 "WasmMerge$Machine" "reader" "LWasmMerge$Reader;") ∈ tb := tb_mem (List.mem_append_right _ (tm_3 (List.mem_of_getElem? (i := 64) rfl))) rfl
theorem wd_78 : (Cond.arrayClass .long) ∈ tb := tb_mem (List.mem_append_right _ (tm_1 (List.mem_of_getElem? (i := 107) rfl))) rfl
theorem wd_79 : (Cond.fieldLink "WasmMerge$Machine" 18 "WasmMerge$Machine" "stack" "[J") ∈ tb := tb_mem (List.mem_append_right _ (tm_3 (List.mem_of_getElem? (i := 65) rfl))) rfl
theorem wd_80 : (Cond.fieldLink "WasmMerge$Machine" 22 "WasmMerge$Machine" "returns" "[I") ∈ tb := tb_mem (List.mem_append_right _ (tm_3 (List.mem_of_getElem? (i := 70) rfl))) rfl
theorem wd_81 : (Cond.fieldLink "WasmMerge$Machine" 26 "WasmMerge$Machine" "bases" "[I") ∈ tb := tb_mem (List.mem_append_right _ (tm_3 (List.mem_of_getElem? (i := 71) rfl))) rfl
theorem wd_82 : (Cond.constant "WasmMerge$Machine" 29 (131072)) ∈ tb := tb_mem (List.mem_append_right _ (tm_3 (List.mem_of_getElem? (i := 61) rfl))) rfl
theorem wd_83 : (Cond.fieldLink "WasmMerge$Machine" 30 "WasmMerge$Machine" "bytes" "[B") ∈ tb := tb_mem (List.mem_append_right _ (tm_3 (List.mem_of_getElem? (i := 75) rfl))) rfl
theorem wd_84 : (Cond.fieldLink "WasmMerge$Machine" 34 "WasmMerge$Machine" "pages" "I") ∈ tb := tb_mem (List.mem_append_right _ (tm_3 (List.mem_of_getElem? (i := 76) rfl))) rfl
theorem wd_85 : (Cond.fieldLink "WasmMerge$Machine" 38 "WasmMerge$Machine" "table" "[I") ∈ tb := tb_mem (List.mem_append_right _ (tm_3 (List.mem_of_getElem? (i := 78) rfl))) rfl
theorem wd_86 : (Cond.fieldLink "WasmMerge$Machine" 41 "WasmMerge$Machine" "globals" "[J") ∈ tb := tb_mem (List.mem_append_right _ (tm_3 (List.mem_of_getElem? (i := 79) rfl))) rfl
theorem wd_87 : (Cond.fieldLink "WasmMerge$Machine" 44 "WasmMerge$Machine" "output" "[J") ∈ tb := tb_mem (List.mem_append_right _ (tm_3 (List.mem_of_getElem? (i := 80) rfl))) rfl
theorem wd_88 : (Cond.fieldLink "WasmMerge$Machine" 47 "WasmMerge$Machine" "code" "[I") ∈ tb := tb_mem (List.mem_append_right _ (tm_3 (List.mem_of_getElem? (i := 62) rfl))) rfl
theorem wd_89 : (Cond.fieldLink "WasmMerge$Machine" 50 "WasmMerge$Machine" "link" "LWasmMerge$Link;") ∈ tb := tb_mem (List.mem_append_right _ (tm_3 (List.mem_of_getElem? (i := 63) rfl))) rfl
def nx_words : List Cond := [.methodLinkNest "WasmMerge$Module" 46 ⟨"WasmMerge$Port", "<init>", "()V"⟩ "WasmMerge", .methodLinkNest "WasmMerge$Module" 58 ⟨"WasmMerge$Function", "<init>", "()V"⟩ "WasmMerge", .methodLinkNest "WasmMerge$Module" 59 ⟨"WasmMerge$Part", "<init>", "()V"⟩ "WasmMerge", .methodLinkNest "WasmMerge$Parser" 11 ⟨"WasmMerge$Reader", "<init>", "()V"⟩ "WasmMerge", .methodLinkNest "WasmMerge$Parser" 24 ⟨"WasmMerge$Port", "<init>", "()V"⟩ "WasmMerge", .methodLinkNest "WasmMerge$Parser" 31 ⟨"WasmMerge$Function", "<init>", "()V"⟩ "WasmMerge", .methodLinkNest "WasmMerge$Parser" 38 ⟨"WasmMerge$Part", "<init>", "()V"⟩ "WasmMerge", .methodLinkNest "WasmMerge$Validator" 11 ⟨"WasmMerge$Reader", "<init>", "()V"⟩ "WasmMerge", .methodLinkNest "WasmMerge$Validator" 38 ⟨"WasmMerge$Block", "<init>", "()V"⟩ "WasmMerge", .methodLinkNest "WasmMerge$Machine" 13 ⟨"WasmMerge$Reader", "<init>", "()V"⟩ "WasmMerge"]
theorem nx_0 : (Cond.methodLinkNest "WasmMerge$Module" 46 ⟨"WasmMerge$Port", "<init>", "()V"⟩ "WasmMerge") ∈ nx_words := List.mem_of_getElem? (i := 0) rfl
theorem nx_1 : (Cond.methodLinkNest "WasmMerge$Module" 58 ⟨"WasmMerge$Function", "<init>", "()V"⟩ "WasmMerge") ∈ nx_words := List.mem_of_getElem? (i := 1) rfl
theorem nx_2 : (Cond.methodLinkNest "WasmMerge$Module" 59 ⟨"WasmMerge$Part", "<init>", "()V"⟩ "WasmMerge") ∈ nx_words := List.mem_of_getElem? (i := 2) rfl
theorem nx_3 : (Cond.methodLinkNest "WasmMerge$Parser" 11 ⟨"WasmMerge$Reader", "<init>", "()V"⟩ "WasmMerge") ∈ nx_words := List.mem_of_getElem? (i := 3) rfl
theorem nx_4 : (Cond.methodLinkNest "WasmMerge$Parser" 24 ⟨"WasmMerge$Port", "<init>", "()V"⟩ "WasmMerge") ∈ nx_words := List.mem_of_getElem? (i := 4) rfl
theorem nx_5 : (Cond.methodLinkNest "WasmMerge$Parser" 31 ⟨"WasmMerge$Function", "<init>", "()V"⟩ "WasmMerge") ∈ nx_words := List.mem_of_getElem? (i := 5) rfl
theorem nx_6 : (Cond.methodLinkNest "WasmMerge$Parser" 38 ⟨"WasmMerge$Part", "<init>", "()V"⟩ "WasmMerge") ∈ nx_words := List.mem_of_getElem? (i := 6) rfl
theorem nx_7 : (Cond.methodLinkNest "WasmMerge$Validator" 11 ⟨"WasmMerge$Reader", "<init>", "()V"⟩ "WasmMerge") ∈ nx_words := List.mem_of_getElem? (i := 7) rfl
theorem nx_8 : (Cond.methodLinkNest "WasmMerge$Validator" 38 ⟨"WasmMerge$Block", "<init>", "()V"⟩ "WasmMerge") ∈ nx_words := List.mem_of_getElem? (i := 8) rfl
theorem nx_9 : (Cond.methodLinkNest "WasmMerge$Machine" 13 ⟨"WasmMerge$Reader", "<init>", "()V"⟩ "WasmMerge") ∈ nx_words := List.mem_of_getElem? (i := 9) rfl
def ao_list : List String := ["WasmMerge$Port", "WasmMerge$Function", "WasmMerge$Part", "WasmMerge$Block"]
theorem ao_0 : "WasmMerge$Port" ∈ ao_list := List.mem_of_getElem? (i := 0) rfl
theorem ao_1 : "WasmMerge$Function" ∈ ao_list := List.mem_of_getElem? (i := 1) rfl
theorem ao_2 : "WasmMerge$Part" ∈ ao_list := List.mem_of_getElem? (i := 2) rfl
theorem ao_3 : "WasmMerge$Block" ∈ ao_list := List.mem_of_getElem? (i := 3) rfl
def st_list : List (String × Nat × String) := []
def no_list : List (String × String) := []
/-- words that stay when tables warm, though the kit's calls don't carry them -/
def nx_kind : Cond → Bool
  | .methodLinkNest .. => true
  | .fieldLinkNest .. => true
  | .declares _ => true
  | .castable .. => true
  | _ => false
theorem nx_ok : ∀ w ∈ nx_words, nx_kind w = true := List.all_eq_true.mp (by decide +kernel)
theorem nx_warm {w : Cond} (hk : nx_kind w = true) {s U : State} (hW : s.WarmedH U.vm) (h : va_Nw w s) : va_Nw w U := by
  cases w <;> first | exact va_Nw.warmM hW h | exact va_Nw.warmF hW h | exact va_Nw.warmD hW h | exact va_Nw.warmC hW h | cases hk
/-- what the contracts carry beside the words -/
def tw_X (U : State) : Prop := (∀ w ∈ nx_words, va_Nw w U) ∧ (∀ C ∈ ao_list, va_AO C U) ∧ (∀ q ∈ st_list, ∃ a, vk_R q.1 q.2.1 q.2.2 a U) ∧ (∀ q ∈ no_list, tw_no q.1 q.2 U)
theorem tw_X.warm {s U : State} (hW : s.WarmedH U.vm) (h : tw_X s) : tw_X U :=
  ⟨fun w hw => nx_warm (nx_ok w hw) hW (h.1 w hw), fun C hC => (h.2.1 C hC).moved hW.alike, fun q hq => let ⟨a, ha⟩ := h.2.2.1 q hq; ⟨a, ha.warm hW⟩, fun q hq => (h.2.2.2 q hq).moved hW.alike⟩
theorem tw_X.same {u U : State} (hv : U.vm = u.vm) (h : tw_X u) : tw_X U := h.warm (by rw [hv]; exact State.WarmedH.refl u)
abbrev b_Port_init : ByteArray := prog_10_method_1_code
def y_Port_init : MethodName := ⟨"WasmMerge$Port", "<init>", "()V"⟩
def ws_Port_init : List Cond := Cond.code ⟨"WasmMerge$Port", "<init>", "()V"⟩ prog_10_method_1_code 1 none :: tb
abbrev b_Function_init : ByteArray := prog_3_method_1_code
def y_Function_init : MethodName := ⟨"WasmMerge$Function", "<init>", "()V"⟩
def ws_Function_init : List Cond := Cond.code ⟨"WasmMerge$Function", "<init>", "()V"⟩ prog_3_method_1_code 1 none :: tb
abbrev b_Part_init : ByteArray := prog_9_method_1_code
def y_Part_init : MethodName := ⟨"WasmMerge$Part", "<init>", "()V"⟩
def ws_Part_init : List Cond := Cond.code ⟨"WasmMerge$Part", "<init>", "()V"⟩ prog_9_method_1_code 1 none :: tb
abbrev b_Block_init : ByteArray := prog_2_method_1_code
def y_Block_init : MethodName := ⟨"WasmMerge$Block", "<init>", "()V"⟩
def ws_Block_init : List Cond := Cond.code ⟨"WasmMerge$Block", "<init>", "()V"⟩ prog_2_method_1_code 1 none :: tb
abbrev b_Reader_init : ByteArray := prog_11_method_1_code
def y_Reader_init : MethodName := ⟨"WasmMerge$Reader", "<init>", "()V"⟩
def ws_Reader_init : List Cond := Cond.code ⟨"WasmMerge$Reader", "<init>", "()V"⟩ prog_11_method_1_code 1 none :: tb
abbrev b_Module_init : ByteArray := prog_6_method_1_code
def y_Module_init : MethodName := ⟨"WasmMerge$Module", "<init>", "()V"⟩
def ws_Module_init : List Cond := Cond.code ⟨"WasmMerge$Module", "<init>", "()V"⟩ prog_6_method_1_code 2 none :: tb
abbrev b_Parser_init : ByteArray := prog_8_method_1_code
def y_Parser_init : MethodName := ⟨"WasmMerge$Parser", "<init>", "(LWasmMerge$Module;)V"⟩
def ws_Parser_init : List Cond := Cond.code ⟨"WasmMerge$Parser", "<init>", "(LWasmMerge$Module;)V"⟩ prog_8_method_1_code 2 none :: tb
abbrev b_Validator_init : ByteArray := prog_12_method_1_code
def y_Validator_init : MethodName := ⟨"WasmMerge$Validator", "<init>", "([ILWasmMerge$Module;)V"⟩
def ws_Validator_init : List Cond := Cond.code ⟨"WasmMerge$Validator", "<init>", "([ILWasmMerge$Module;)V"⟩ prog_12_method_1_code 4 none :: tb
abbrev b_Link_init : ByteArray := prog_4_method_1_code
def y_Link_init : MethodName := ⟨"WasmMerge$Link", "<init>", "([LWasmMerge$Module;)V"⟩
def ws_Link_init : List Cond := Cond.code ⟨"WasmMerge$Link", "<init>", "([LWasmMerge$Module;)V"⟩ prog_4_method_1_code 2 none :: tb
abbrev b_Machine_init : ByteArray := prog_5_method_1_code
def y_Machine_init : MethodName := ⟨"WasmMerge$Machine", "<init>", "([ILWasmMerge$Link;)V"⟩
def ws_Machine_init : List Cond := Cond.code ⟨"WasmMerge$Machine", "<init>", "([ILWasmMerge$Link;)V"⟩ prog_5_method_1_code 3 none :: tb
