/-! words -/
theorem wd_0 : (Cond.methodLink "WasmMerge$Port" 1 ⟨"java/lang/Object", "<init>", "()V"⟩) ∈ tb := tb_mem (List.mem_append_right _ (tm_1 (List.mem_of_getElem? (i := 62) rfl))) rfl
theorem wd_1 : (Cond.instanceMethod ⟨"java/lang/Object", "<init>", "()V"⟩) ∈ tb := tb_mem (List.mem_append_right _ (tm_1 (List.mem_of_getElem? (i := 43) rfl))) rfl
theorem wd_2 : (Cond.code ⟨"java/lang/Object", "<init>", "()V"⟩ object_method_1_code 1 none) ∈ tb := tb_mem (List.mem_append_right _ (tm_1 (List.mem_of_getElem? (i := 44) rfl))) rfl
theorem wd_3 : (Cond.methodLink "WasmMerge$Function" 1 ⟨"java/lang/Object", "<init>", "()V"⟩) ∈ tb := tb_mem (List.mem_append_right _ (tm_1 (List.mem_of_getElem? (i := 113) rfl))) rfl
theorem wd_4 : (Cond.methodLink "WasmMerge$Part" 1 ⟨"java/lang/Object", "<init>", "()V"⟩) ∈ tb := tb_mem (List.mem_append_right _ (tm_1 (List.mem_of_getElem? (i := 141) rfl))) rfl
theorem wd_5 : (Cond.methodLink "WasmMerge$Block" 1 ⟨"java/lang/Object", "<init>", "()V"⟩) ∈ tb := tb_mem (List.mem_append_right _ (tm_2 (List.mem_of_getElem? (i := 157) rfl))) rfl
theorem wd_6 : (Cond.methodLink "WasmMerge$Reader" 3 ⟨"java/lang/Object", "<init>", "()V"⟩) ∈ tb := tb_mem (List.mem_append_right _ (tm_2 (List.mem_of_getElem? (i := 64) rfl))) rfl
theorem wd_7 : (Cond.arrayClass .byte) ∈ tb := tb_mem (List.mem_append_right _ (tm_1 (List.mem_of_getElem? (i := 106) rfl))) rfl
theorem wd_8 : (Cond.fieldLink "WasmMerge$Reader" 9 "WasmMerge$Reader" "bytes" "[B") ∈ tb := tb_mem (List.mem_append_right _ (tm_2 (List.mem_of_getElem? (i := 65) rfl))) rfl
theorem wd_9 : (Cond.arrayClass .int) ∈ tb := tb_mem (List.mem_append_right _ (tm_1 (List.mem_of_getElem? (i := 108) rfl))) rfl
theorem wd_10 : (Cond.fieldLink "WasmMerge$Reader" 15 "WasmMerge$Reader" "labels" "[I") ∈ tb := tb_mem (List.mem_append_right _ (tm_2 (List.mem_of_getElem? (i := 79) rfl))) rfl
theorem wd_11 : (Cond.methodLink "WasmMerge$Module" 3 ⟨"java/lang/Object", "<init>", "()V"⟩) ∈ tb := tb_mem (List.mem_append_right _ (tm_1 (List.mem_of_getElem? (i := 51) rfl))) rfl
theorem wd_12 : (Cond.fieldLink "WasmMerge$Module" 9 "WasmMerge$Module" "bytes" "[B") ∈ tb := tb_mem (List.mem_append_right _ (tm_1 (List.mem_of_getElem? (i := 172) rfl))) rfl
theorem wd_13 : (Cond.fieldLink "WasmMerge$Module" 15 "WasmMerge$Module" "types" "[I") ∈ tb := tb_mem (List.mem_append_right _ (tm_1 (List.mem_of_getElem? (i := 177) rfl))) rfl
theorem wd_14 : (Cond.classLink "WasmMerge$Module" 19 "WasmMerge$Port") ∈ tb := tb_mem (List.mem_append_right _ (tm_1 (List.mem_of_getElem? (i := 52) rfl))) rfl
theorem wd_15 : (Cond.fieldLink "WasmMerge$Module" 21 "WasmMerge$Module" "imports" "[LWasmMerge$Port;") ∈ tb := tb_mem (List.mem_append_right _ (tm_1 (List.mem_of_getElem? (i := 185) rfl))) rfl
theorem wd_16 : (Cond.classLink "WasmMerge$Module" 25 "WasmMerge$Function") ∈ tb := tb_mem (List.mem_append_right _ (tm_1 (List.mem_of_getElem? (i := 54) rfl))) rfl
theorem wd_17 : (Cond.fieldLink "WasmMerge$Module" 27 "WasmMerge$Module" "functions" "[LWasmMerge$Function;") ∈ tb := tb_mem (List.mem_append_right _ (tm_1 (List.mem_of_getElem? (i := 191) rfl))) rfl
theorem wd_18 : (Cond.classLink "WasmMerge$Module" 31 "WasmMerge$Part") ∈ tb := tb_mem (List.mem_append_right _ (tm_1 (List.mem_of_getElem? (i := 56) rfl))) rfl
theorem wd_19 : (Cond.fieldLink "WasmMerge$Module" 33 "WasmMerge$Module" "globals" "[LWasmMerge$Part;") ∈ tb := tb_mem (List.mem_append_right _ (tm_1 (List.mem_of_getElem? (i := 199) rfl))) rfl
theorem wd_20 : (Cond.fieldLink "WasmMerge$Module" 37 "WasmMerge$Module" "exports" "[LWasmMerge$Port;") ∈ tb := tb_mem (List.mem_append_right _ (tm_1 (List.mem_of_getElem? (i := 209) rfl))) rfl
theorem wd_21 : (Cond.fieldLink "WasmMerge$Module" 40 "WasmMerge$Module" "elements" "[LWasmMerge$Part;") ∈ tb := tb_mem (List.mem_append_right _ (tm_1 (List.mem_of_getElem? (i := 219) rfl))) rfl
theorem wd_22 : (Cond.fieldLink "WasmMerge$Module" 43 "WasmMerge$Module" "data" "[LWasmMerge$Part;") ∈ tb := tb_mem (List.mem_append_right _ (tm_1 (List.mem_of_getElem? (i := 227) rfl))) rfl
theorem wd_23 : (Cond.instantiable "WasmMerge$Port" 9) ∈ tb := tb_mem (List.mem_append_right _ (tm_1 (List.mem_of_getElem? (i := 58) rfl))) rfl
theorem wd_24 : (Cond.initialized "WasmMerge$Port") ∈ tb := tb_mem (List.mem_append_right _ (tm_1 (List.mem_of_getElem? (i := 3) rfl))) rfl
theorem wd_25 : (Cond.code ⟨"WasmMerge$Port", "<init>", "()V"⟩ prog_10_method_1_code 1 none) ∈ tb := tb_mem (List.mem_append_right _ (tm_1 (List.mem_of_getElem? (i := 61) rfl))) rfl
theorem wd_26 : (Cond.instanceMethod ⟨"WasmMerge$Port", "<init>", "()V"⟩) ∈ tb := tb_mem (List.mem_append_right _ (tm_1 (List.mem_of_getElem? (i := 60) rfl))) rfl
theorem wd_27 : (Cond.fieldLink "WasmMerge$Module" 47 "WasmMerge$Module" "table" "LWasmMerge$Port;") ∈ tb := tb_mem (List.mem_append_right _ (tm_1 (List.mem_of_getElem? (i := 235) rfl))) rfl
theorem wd_28 : (Cond.fieldLink "WasmMerge$Module" 51 "WasmMerge$Module" "memory" "LWasmMerge$Port;") ∈ tb := tb_mem (List.mem_append_right _ (tm_2 (List.mem_of_getElem? (i := 1) rfl))) rfl
theorem wd_29 : (Cond.fieldLink "WasmMerge$Module" 54 "WasmMerge$Module" "start" "I") ∈ tb := tb_mem (List.mem_append_right _ (tm_2 (List.mem_of_getElem? (i := 7) rfl))) rfl
theorem wd_30 : (Cond.instantiable "WasmMerge$Function" 5) ∈ tb := tb_mem (List.mem_append_right _ (tm_1 (List.mem_of_getElem? (i := 109) rfl))) rfl
theorem wd_31 : (Cond.initialized "WasmMerge$Function") ∈ tb := tb_mem (List.mem_append_right _ (tm_1 (List.mem_of_getElem? (i := 4) rfl))) rfl
theorem wd_32 : (Cond.code ⟨"WasmMerge$Function", "<init>", "()V"⟩ prog_3_method_1_code 1 none) ∈ tb := tb_mem (List.mem_append_right _ (tm_1 (List.mem_of_getElem? (i := 112) rfl))) rfl
theorem wd_33 : (Cond.instanceMethod ⟨"WasmMerge$Function", "<init>", "()V"⟩) ∈ tb := tb_mem (List.mem_append_right _ (tm_1 (List.mem_of_getElem? (i := 111) rfl))) rfl
theorem wd_34 : (Cond.instantiable "WasmMerge$Part" 6) ∈ tb := tb_mem (List.mem_append_right _ (tm_1 (List.mem_of_getElem? (i := 137) rfl))) rfl
theorem wd_35 : (Cond.initialized "WasmMerge$Part") ∈ tb := tb_mem (List.mem_append_right _ (tm_1 (List.mem_of_getElem? (i := 5) rfl))) rfl
theorem wd_36 : (Cond.code ⟨"WasmMerge$Part", "<init>", "()V"⟩ prog_9_method_1_code 1 none) ∈ tb := tb_mem (List.mem_append_right _ (tm_1 (List.mem_of_getElem? (i := 140) rfl))) rfl
theorem wd_37 : (Cond.instanceMethod ⟨"WasmMerge$Part", "<init>", "()V"⟩) ∈ tb := tb_mem (List.mem_append_right _ (tm_1 (List.mem_of_getElem? (i := 139) rfl))) rfl
theorem wd_38 : (Cond.methodLink "WasmMerge$Parser" 3 ⟨"java/lang/Object", "<init>", "()V"⟩) ∈ tb := tb_mem (List.mem_append_right _ (tm_2 (List.mem_of_getElem? (i := 58) rfl))) rfl
theorem wd_39 : (Cond.classLink "WasmMerge$Parser" 9 "WasmMerge$Reader") ∈ tb := tb_mem (List.mem_append_right _ (tm_2 (List.mem_of_getElem? (i := 59) rfl))) rfl
theorem wd_40 : (Cond.instantiable "WasmMerge$Reader" 9) ∈ tb := tb_mem (List.mem_append_right _ (tm_2 (List.mem_of_getElem? (i := 60) rfl))) rfl
theorem wd_41 : (Cond.initialized "WasmMerge$Reader") ∈ tb := tb_mem (List.mem_append_right _ (tm_1 (List.mem_of_getElem? (i := 7) rfl))) rfl
theorem wd_42 : (Cond.code ⟨"WasmMerge$Reader", "<init>", "()V"⟩ prog_11_method_1_code 1 none) ∈ tb := tb_mem (List.mem_append_right _ (tm_2 (List.mem_of_getElem? (i := 63) rfl))) rfl
theorem wd_43 : (Cond.instanceMethod ⟨"WasmMerge$Reader", "<init>", "()V"⟩) ∈ tb := tb_mem (List.mem_append_right _ (tm_2 (List.mem_of_getElem? (i := 62) rfl))) rfl
theorem wd_44 : (Cond.fieldLink "WasmMerge$Parser" 12 "WasmMerge$Parser" "reader" "LWasmMerge$Reader;") ∈ tb := tb_mem (List.mem_append_right _ (tm_2 (List.mem_of_getElem? (i := 109) rfl))) rfl
theorem wd_45 : (Cond.fieldLink "WasmMerge$Parser" 18 "WasmMerge$Parser" "kinds" "[I") ∈ tb := tb_mem (List.mem_append_right _ (tm_2 (List.mem_of_getElem? (i := 110) rfl))) rfl
theorem wd_46 : (Cond.classLink "WasmMerge$Parser" 22 "WasmMerge$Port") ∈ tb := tb_mem (List.mem_append_right _ (tm_2 (List.mem_of_getElem? (i := 103) rfl))) rfl
theorem wd_47 : (Cond.fieldLink "WasmMerge$Parser" 25 "WasmMerge$Parser" "sparePort" "LWasmMerge$Port;") ∈ tb := tb_mem (List.mem_append_right _ (tm_2 (List.mem_of_getElem? (i := 111) rfl))) rfl
theorem wd_48 : (Cond.classLink "WasmMerge$Parser" 29 "WasmMerge$Function") ∈ tb := tb_mem (List.mem_append_right _ (tm_2 (List.mem_of_getElem? (i := 105) rfl))) rfl
theorem wd_49 : (Cond.fieldLink "WasmMerge$Parser" 32 "WasmMerge$Parser" "spareFunction" "LWasmMerge$Function;") ∈ tb := tb_mem (List.mem_append_right _ (tm_2 (List.mem_of_getElem? (i := 112) rfl))) rfl
theorem wd_50 : (Cond.classLink "WasmMerge$Parser" 36 "WasmMerge$Part") ∈ tb := tb_mem (List.mem_append_right _ (tm_2 (List.mem_of_getElem? (i := 107) rfl))) rfl
theorem wd_51 : (Cond.fieldLink "WasmMerge$Parser" 39 "WasmMerge$Parser" "sparePart" "LWasmMerge$Part;") ∈ tb := tb_mem (List.mem_append_right _ (tm_2 (List.mem_of_getElem? (i := 113) rfl))) rfl
theorem wd_52 : (Cond.fieldLink "WasmMerge$Parser" 43 "WasmMerge$Parser" "module" "LWasmMerge$Module;") ∈ tb := tb_mem (List.mem_append_right _ (tm_2 (List.mem_of_getElem? (i := 114) rfl))) rfl
theorem wd_53 : (Cond.methodLink "WasmMerge$Validator" 3 ⟨"java/lang/Object", "<init>", "()V"⟩) ∈ tb := tb_mem (List.mem_append_right _ (tm_2 (List.mem_of_getElem? (i := 148) rfl))) rfl
theorem wd_54 : (Cond.classLink "WasmMerge$Validator" 9 "WasmMerge$Reader") ∈ tb := tb_mem (List.mem_append_right _ (tm_2 (List.mem_of_getElem? (i := 149) rfl))) rfl
theorem wd_55 : (Cond.fieldLink "WasmMerge$Validator" 12 "WasmMerge$Validator" "reader" "LWasmMerge$Reader;") ∈ tb := tb_mem (List.mem_append_right _ (tm_2 (List.mem_of_getElem? (i := 181) rfl))) rfl
theorem wd_56 : (Cond.fieldLink "WasmMerge$Validator" 18 "WasmMerge$Validator" "stack" "[I") ∈ tb := tb_mem (List.mem_append_right _ (tm_2 (List.mem_of_getElem? (i := 186) rfl))) rfl
theorem wd_57 : (Cond.classLink "WasmMerge$Validator" 22 "WasmMerge$Block") ∈ tb := tb_mem (List.mem_append_right _ (tm_2 (List.mem_of_getElem? (i := 151) rfl))) rfl
theorem wd_58 : (Cond.fieldLink "WasmMerge$Validator" 24 "WasmMerge$Validator" "blocks" "[LWasmMerge$Block;") ∈ tb := tb_mem (List.mem_append_right _ (tm_2 (List.mem_of_getElem? (i := 188) rfl))) rfl
theorem wd_59 : (Cond.fieldLink "WasmMerge$Validator" 28 "WasmMerge$Validator" "locals" "[I") ∈ tb := tb_mem (List.mem_append_right _ (tm_2 (List.mem_of_getElem? (i := 191) rfl))) rfl
theorem wd_60 : (Cond.fieldLink "WasmMerge$Validator" 31 "WasmMerge$Validator" "code" "[I") ∈ tb := tb_mem (List.mem_append_right _ (tm_2 (List.mem_of_getElem? (i := 180) rfl))) rfl
theorem wd_61 : (Cond.fieldLink "WasmMerge$Validator" 34 "WasmMerge$Validator" "module" "LWasmMerge$Module;") ∈ tb := tb_mem (List.mem_append_right _ (tm_2 (List.mem_of_getElem? (i := 182) rfl))) rfl
theorem wd_62 : (Cond.instantiable "WasmMerge$Block" 7) ∈ tb := tb_mem (List.mem_append_right _ (tm_2 (List.mem_of_getElem? (i := 153) rfl))) rfl
theorem wd_63 : (Cond.initialized "WasmMerge$Block") ∈ tb := tb_mem (List.mem_append_right _ (tm_1 (List.mem_of_getElem? (i := 9) rfl))) rfl
theorem wd_64 : (Cond.code ⟨"WasmMerge$Block", "<init>", "()V"⟩ prog_2_method_1_code 1 none) ∈ tb := tb_mem (List.mem_append_right _ (tm_2 (List.mem_of_getElem? (i := 156) rfl))) rfl
theorem wd_65 : (Cond.instanceMethod ⟨"WasmMerge$Block", "<init>", "()V"⟩) ∈ tb := tb_mem (List.mem_append_right _ (tm_2 (List.mem_of_getElem? (i := 155) rfl))) rfl
theorem wd_66 : (Cond.fieldLink "WasmMerge$Validator" 39 "WasmMerge$Validator" "block" "LWasmMerge$Block;") ∈ tb := tb_mem (List.mem_append_right _ (tm_2 (List.mem_of_getElem? (i := 190) rfl))) rfl
theorem wd_67 : (Cond.methodLink "WasmMerge$Link" 3 ⟨"java/lang/Object", "<init>", "()V"⟩) ∈ tb := tb_mem (List.mem_append_right _ (tm_2 (List.mem_of_getElem? (i := 225) rfl))) rfl
theorem wd_68 : (Cond.fieldLink "WasmMerge$Link" 9 "WasmMerge$Link" "functionOf" "[I") ∈ tb := tb_mem (List.mem_append_right _ (tm_2 (List.mem_of_getElem? (i := 230) rfl))) rfl
theorem wd_69 : (Cond.fieldLink "WasmMerge$Link" 15 "WasmMerge$Link" "globalOf" "[I") ∈ tb := tb_mem (List.mem_append_right _ (tm_2 (List.mem_of_getElem? (i := 231) rfl))) rfl
theorem wd_70 : (Cond.fieldLink "WasmMerge$Link" 18 "WasmMerge$Link" "signatures" "[I") ∈ tb := tb_mem (List.mem_append_right _ (tm_2 (List.mem_of_getElem? (i := 232) rfl))) rfl
theorem wd_71 : (Cond.fieldLink "WasmMerge$Link" 21 "WasmMerge$Link" "entries" "[I") ∈ tb := tb_mem (List.mem_append_right _ (tm_2 (List.mem_of_getElem? (i := 233) rfl))) rfl
theorem wd_72 : (Cond.fieldLink "WasmMerge$Link" 24 "WasmMerge$Link" "localCounts" "[I") ∈ tb := tb_mem (List.mem_append_right _ (tm_2 (List.mem_of_getElem? (i := 234) rfl))) rfl
theorem wd_73 : (Cond.fieldLink "WasmMerge$Link" 27 "WasmMerge$Link" "types" "[I") ∈ tb := tb_mem (List.mem_append_right _ (tm_2 (List.mem_of_getElem? (i := 235) rfl))) rfl
theorem wd_74 : (Cond.fieldLink "WasmMerge$Link" 30 "WasmMerge$Link" "modules" "[LWasmMerge$Module;") ∈ tb := tb_mem (List.mem_append_right _ (tm_2 (List.mem_of_getElem? (i := 226) rfl))) rfl
theorem wd_75 : (Cond.methodLink "WasmMerge$Machine" 5 ⟨"java/lang/Object", "<init>", "()V"⟩) ∈ tb := tb_mem (List.mem_append_right _ (tm_3 (List.mem_of_getElem? (i := 58) rfl))) rfl
theorem wd_76 : (Cond.classLink "WasmMerge$Machine" 11 "WasmMerge$Reader") ∈ tb := tb_mem (List.mem_append_right _ (tm_3 (List.mem_of_getElem? (i := 59) rfl))) rfl
theorem wd_77 : (Cond.fieldLink "WasmMerge$Machine" 14 "WasmMerge$Machine" "reader" "LWasmMerge$Reader;") ∈ tb := tb_mem (List.mem_append_right _ (tm_3 (List.mem_of_getElem? (i := 64) rfl))) rfl
theorem wd_78 : (Cond.arrayClass .long) ∈ tb := tb_mem (List.mem_append_right _ (tm_1 (List.mem_of_getElem? (i := 107) rfl))) rfl
theorem wd_79 : (Cond.fieldLink "WasmMerge$Machine" 18 "WasmMerge$Machine" "stack" "[J") ∈ tb := tb_mem (List.mem_append_right _ (tm_3 (List.mem_of_getElem? (i := 65) rfl))) rfl
theorem wd_80 : (Cond.fieldLink "WasmMerge$Machine" 22 "WasmMerge$Machine" "returns" "[I") ∈ tb := tb_mem (List.mem_append_right _ (tm_3 (List.mem_of_getElem? (i := 70) rfl))) rfl
theorem wd_81 : (Cond.fieldLink "WasmMerge$Machine" 26 "WasmMerge$Machine" "bases" "[I") ∈ tb := tb_mem (List.mem_append_right _ (tm_3 (List.mem_of_getElem? (i := 71) rfl))) rfl
theorem wd_82 : (Cond.constant "WasmMerge$Machine" 29 (131072)) ∈ tb := tb_mem (List.mem_append_right _ (tm_3 (List.mem_of_getElem? (i := 61) rfl))) rfl
theorem wd_83 : (Cond.fieldLink "WasmMerge$Machine" 30 "WasmMerge$Machine" "bytes" "[B") ∈ tb := tb_mem (List.mem_append_right _ (tm_3 (List.mem_of_getElem? (i := 75) rfl))) rfl
theorem wd_84 : (Cond.fieldLink "WasmMerge$Machine" 34 "WasmMerge$Machine" "pages" "I") ∈ tb := tb_mem (List.mem_append_right _ (tm_3 (List.mem_of_getElem? (i := 76) rfl))) rfl
theorem wd_85 : (Cond.fieldLink "WasmMerge$Machine" 38 "WasmMerge$Machine" "table" "[I") ∈ tb := tb_mem (List.mem_append_right _ (tm_3 (List.mem_of_getElem? (i := 78) rfl))) rfl
theorem wd_86 : (Cond.fieldLink "WasmMerge$Machine" 41 "WasmMerge$Machine" "globals" "[J") ∈ tb := tb_mem (List.mem_append_right _ (tm_3 (List.mem_of_getElem? (i := 79) rfl))) rfl
theorem wd_87 : (Cond.fieldLink "WasmMerge$Machine" 44 "WasmMerge$Machine" "output" "[J") ∈ tb := tb_mem (List.mem_append_right _ (tm_3 (List.mem_of_getElem? (i := 80) rfl))) rfl
theorem wd_88 : (Cond.fieldLink "WasmMerge$Machine" 47 "WasmMerge$Machine" "code" "[I") ∈ tb := tb_mem (List.mem_append_right _ (tm_3 (List.mem_of_getElem? (i := 62) rfl))) rfl
theorem wd_89 : (Cond.fieldLink "WasmMerge$Machine" 50 "WasmMerge$Machine" "link" "LWasmMerge$Link;") ∈ tb := tb_mem (List.mem_append_right _ (tm_3 (List.mem_of_getElem? (i := 63) rfl))) rfl
theorem wd_90 : (Cond.methodLink "WasmMerge" 3 ⟨"java/lang/Object", "<init>", "()V"⟩) ∈ tb := tb_mem (List.mem_append_right _ (tm_1 (List.mem_of_getElem? (i := 42) rfl))) rfl
theorem wd_91 : (Cond.fieldLink "WasmMerge" 9 "WasmMerge" "row" "[B") ∈ tb := tb_mem (List.mem_append_right _ (tm_3 (List.mem_of_getElem? (i := 123) rfl))) rfl
theorem wd_92 : (Cond.classLink "WasmMerge" 13 "WasmMerge$Module") ∈ tb := tb_mem (List.mem_append_right _ (tm_1 (List.mem_of_getElem? (i := 45) rfl))) rfl
theorem wd_93 : (Cond.fieldLink "WasmMerge" 15 "WasmMerge" "modules" "[LWasmMerge$Module;") ∈ tb := tb_mem (List.mem_append_right _ (tm_3 (List.mem_of_getElem? (i := 125) rfl))) rfl
theorem wd_94 : (Cond.fieldLink "WasmMerge" 19 "WasmMerge" "arguments" "[J") ∈ tb := tb_mem (List.mem_append_right _ (tm_3 (List.mem_of_getElem? (i := 131) rfl))) rfl
theorem wd_95 : (Cond.instantiable "WasmMerge$Module" 20) ∈ tb := tb_mem (List.mem_append_right _ (tm_1 (List.mem_of_getElem? (i := 47) rfl))) rfl
theorem wd_96 : (Cond.initialized "WasmMerge$Module") ∈ tb := tb_mem (List.mem_append_right _ (tm_1 (List.mem_of_getElem? (i := 2) rfl))) rfl
theorem wd_97 : (Cond.code ⟨"WasmMerge$Module", "<init>", "()V"⟩ prog_6_method_1_code 2 none) ∈ tb := tb_mem (List.mem_append_right _ (tm_1 (List.mem_of_getElem? (i := 50) rfl))) rfl
theorem wd_98 : (Cond.instanceMethod ⟨"WasmMerge$Module", "<init>", "()V"⟩) ∈ tb := tb_mem (List.mem_append_right _ (tm_1 (List.mem_of_getElem? (i := 49) rfl))) rfl
theorem wd_99 : (Cond.methodLink "WasmMerge" 23 ⟨"WasmMerge$Module", "<init>", "()V"⟩) ∈ tb := tb_mem (List.mem_append_right _ (tm_1 (List.mem_of_getElem? (i := 48) rfl))) rfl
theorem wd_100 : (Cond.constant "WasmMerge" 24 (72000)) ∈ tb := tb_mem (List.mem_append_right _ (tm_2 (List.mem_of_getElem? (i := 52) rfl))) rfl
theorem wd_101 : (Cond.classLink "WasmMerge" 25 "WasmMerge$Parser") ∈ tb := tb_mem (List.mem_append_right _ (tm_2 (List.mem_of_getElem? (i := 53) rfl))) rfl
theorem wd_102 : (Cond.instantiable "WasmMerge$Parser" 11) ∈ tb := tb_mem (List.mem_append_right _ (tm_2 (List.mem_of_getElem? (i := 54) rfl))) rfl
theorem wd_103 : (Cond.initialized "WasmMerge$Parser") ∈ tb := tb_mem (List.mem_append_right _ (tm_1 (List.mem_of_getElem? (i := 6) rfl))) rfl
theorem wd_104 : (Cond.code ⟨"WasmMerge$Parser", "<init>", "(LWasmMerge$Module;)V"⟩ prog_8_method_1_code 2 none) ∈ tb := tb_mem (List.mem_append_right _ (tm_2 (List.mem_of_getElem? (i := 57) rfl))) rfl
theorem wd_105 : (Cond.instanceMethod ⟨"WasmMerge$Parser", "<init>", "(LWasmMerge$Module;)V"⟩) ∈ tb := tb_mem (List.mem_append_right _ (tm_2 (List.mem_of_getElem? (i := 56) rfl))) rfl
theorem wd_106 : (Cond.methodLink "WasmMerge" 27 ⟨"WasmMerge$Parser", "<init>", "(LWasmMerge$Module;)V"⟩) ∈ tb := tb_mem (List.mem_append_right _ (tm_2 (List.mem_of_getElem? (i := 55) rfl))) rfl
theorem wd_107 : (Cond.fieldLink "WasmMerge" 30 "WasmMerge" "parser" "LWasmMerge$Parser;") ∈ tb := tb_mem (List.mem_append_right _ (tm_3 (List.mem_of_getElem? (i := 127) rfl))) rfl
theorem wd_108 : (Cond.classLink "WasmMerge" 34 "WasmMerge$Validator") ∈ tb := tb_mem (List.mem_append_right _ (tm_2 (List.mem_of_getElem? (i := 143) rfl))) rfl
theorem wd_109 : (Cond.instantiable "WasmMerge$Validator" 13) ∈ tb := tb_mem (List.mem_append_right _ (tm_2 (List.mem_of_getElem? (i := 144) rfl))) rfl
theorem wd_110 : (Cond.initialized "WasmMerge$Validator") ∈ tb := tb_mem (List.mem_append_right _ (tm_1 (List.mem_of_getElem? (i := 8) rfl))) rfl
theorem wd_111 : (Cond.code ⟨"WasmMerge$Validator", "<init>", "([ILWasmMerge$Module;)V"⟩ prog_12_method_1_code 4 none) ∈ tb := tb_mem (List.mem_append_right _ (tm_2 (List.mem_of_getElem? (i := 147) rfl))) rfl
theorem wd_112 : (Cond.instanceMethod ⟨"WasmMerge$Validator", "<init>", "([ILWasmMerge$Module;)V"⟩) ∈ tb := tb_mem (List.mem_append_right _ (tm_2 (List.mem_of_getElem? (i := 146) rfl))) rfl
theorem wd_113 : (Cond.methodLink "WasmMerge" 36 ⟨"WasmMerge$Validator", "<init>", "([ILWasmMerge$Module;)V"⟩) ∈ tb := tb_mem (List.mem_append_right _ (tm_2 (List.mem_of_getElem? (i := 145) rfl))) rfl
theorem wd_114 : (Cond.fieldLink "WasmMerge" 39 "WasmMerge" "validator" "LWasmMerge$Validator;") ∈ tb := tb_mem (List.mem_append_right _ (tm_3 (List.mem_of_getElem? (i := 128) rfl))) rfl
theorem wd_115 : (Cond.classLink "WasmMerge" 43 "WasmMerge$Link") ∈ tb := tb_mem (List.mem_append_right _ (tm_2 (List.mem_of_getElem? (i := 220) rfl))) rfl
theorem wd_116 : (Cond.instantiable "WasmMerge$Link" 18) ∈ tb := tb_mem (List.mem_append_right _ (tm_2 (List.mem_of_getElem? (i := 221) rfl))) rfl
theorem wd_117 : (Cond.initialized "WasmMerge$Link") ∈ tb := tb_mem (List.mem_append_right _ (tm_1 (List.mem_of_getElem? (i := 10) rfl))) rfl
theorem wd_118 : (Cond.code ⟨"WasmMerge$Link", "<init>", "([LWasmMerge$Module;)V"⟩ prog_4_method_1_code 2 none) ∈ tb := tb_mem (List.mem_append_right _ (tm_2 (List.mem_of_getElem? (i := 224) rfl))) rfl
theorem wd_119 : (Cond.instanceMethod ⟨"WasmMerge$Link", "<init>", "([LWasmMerge$Module;)V"⟩) ∈ tb := tb_mem (List.mem_append_right _ (tm_2 (List.mem_of_getElem? (i := 223) rfl))) rfl
theorem wd_120 : (Cond.methodLink "WasmMerge" 45 ⟨"WasmMerge$Link", "<init>", "([LWasmMerge$Module;)V"⟩) ∈ tb := tb_mem (List.mem_append_right _ (tm_2 (List.mem_of_getElem? (i := 222) rfl))) rfl
theorem wd_121 : (Cond.fieldLink "WasmMerge" 48 "WasmMerge" "link" "LWasmMerge$Link;") ∈ tb := tb_mem (List.mem_append_right _ (tm_3 (List.mem_of_getElem? (i := 129) rfl))) rfl
theorem wd_122 : (Cond.classLink "WasmMerge" 52 "WasmMerge$Machine") ∈ tb := tb_mem (List.mem_append_right _ (tm_3 (List.mem_of_getElem? (i := 53) rfl))) rfl
theorem wd_123 : (Cond.instantiable "WasmMerge$Machine" 19) ∈ tb := tb_mem (List.mem_append_right _ (tm_3 (List.mem_of_getElem? (i := 54) rfl))) rfl
theorem wd_124 : (Cond.initialized "WasmMerge$Machine") ∈ tb := tb_mem (List.mem_append_right _ (tm_1 (List.mem_of_getElem? (i := 11) rfl))) rfl
theorem wd_125 : (Cond.code ⟨"WasmMerge$Machine", "<init>", "([ILWasmMerge$Link;)V"⟩ prog_5_method_1_code 3 none) ∈ tb := tb_mem (List.mem_append_right _ (tm_3 (List.mem_of_getElem? (i := 57) rfl))) rfl
theorem wd_126 : (Cond.instanceMethod ⟨"WasmMerge$Machine", "<init>", "([ILWasmMerge$Link;)V"⟩) ∈ tb := tb_mem (List.mem_append_right _ (tm_3 (List.mem_of_getElem? (i := 56) rfl))) rfl
theorem wd_127 : (Cond.methodLink "WasmMerge" 54 ⟨"WasmMerge$Machine", "<init>", "([ILWasmMerge$Link;)V"⟩) ∈ tb := tb_mem (List.mem_append_right _ (tm_3 (List.mem_of_getElem? (i := 55) rfl))) rfl
theorem wd_128 : (Cond.fieldLink "WasmMerge" 57 "WasmMerge" "machine" "LWasmMerge$Machine;") ∈ tb := tb_mem (List.mem_append_right _ (tm_3 (List.mem_of_getElem? (i := 130) rfl))) rfl
theorem wd_129 : (Cond.methodLink "WasmMergeModel$Unit" 3 ⟨"java/lang/Object", "<init>", "()V"⟩) ∈ tb := tb_mem (List.mem_append_right _ (tm_9 (List.mem_of_getElem? (i := 27) rfl))) rfl
theorem wd_130 : (Cond.fieldLink "WasmMergeModel$Unit" 9 "WasmMergeModel$Unit" "b" "[B") ∈ tb := tb_mem (List.mem_append_right _ (tm_9 (List.mem_of_getElem? (i := 28) rfl))) rfl
theorem wd_131 : (Cond.fieldLink "WasmMergeModel$Unit" 15 "WasmMergeModel$Unit" "params" "[I") ∈ tb := tb_mem (List.mem_append_right _ (tm_9 (List.mem_of_getElem? (i := 43) rfl))) rfl
theorem wd_132 : (Cond.fieldLink "WasmMergeModel$Unit" 19 "WasmMergeModel$Unit" "param" "[I") ∈ tb := tb_mem (List.mem_append_right _ (tm_9 (List.mem_of_getElem? (i := 45) rfl))) rfl
theorem wd_133 : (Cond.fieldLink "WasmMergeModel$Unit" 22 "WasmMergeModel$Unit" "result" "[I") ∈ tb := tb_mem (List.mem_append_right _ (tm_9 (List.mem_of_getElem? (i := 47) rfl))) rfl
theorem wd_134 : (Cond.fieldLink "WasmMergeModel$Unit" 25 "WasmMergeModel$Unit" "iModule" "[I") ∈ tb := tb_mem (List.mem_append_right _ (tm_9 (List.mem_of_getElem? (i := 49) rfl))) rfl
theorem wd_135 : (Cond.fieldLink "WasmMergeModel$Unit" 28 "WasmMergeModel$Unit" "iModuleLong" "[I") ∈ tb := tb_mem (List.mem_append_right _ (tm_9 (List.mem_of_getElem? (i := 51) rfl))) rfl
theorem wd_136 : (Cond.fieldLink "WasmMergeModel$Unit" 31 "WasmMergeModel$Unit" "iName" "[I") ∈ tb := tb_mem (List.mem_append_right _ (tm_9 (List.mem_of_getElem? (i := 53) rfl))) rfl
theorem wd_137 : (Cond.fieldLink "WasmMergeModel$Unit" 34 "WasmMergeModel$Unit" "iNameLong" "[I") ∈ tb := tb_mem (List.mem_append_right _ (tm_9 (List.mem_of_getElem? (i := 55) rfl))) rfl
theorem wd_138 : (Cond.fieldLink "WasmMergeModel$Unit" 37 "WasmMergeModel$Unit" "iSort" "[I") ∈ tb := tb_mem (List.mem_append_right _ (tm_9 (List.mem_of_getElem? (i := 57) rfl))) rfl
theorem wd_139 : (Cond.fieldLink "WasmMergeModel$Unit" 40 "WasmMergeModel$Unit" "iFirst" "[I") ∈ tb := tb_mem (List.mem_append_right _ (tm_9 (List.mem_of_getElem? (i := 59) rfl))) rfl
theorem wd_140 : (Cond.fieldLink "WasmMergeModel$Unit" 43 "WasmMergeModel$Unit" "iSecond" "[J") ∈ tb := tb_mem (List.mem_append_right _ (tm_9 (List.mem_of_getElem? (i := 61) rfl))) rfl
theorem wd_141 : (Cond.fieldLink "WasmMergeModel$Unit" 47 "WasmMergeModel$Unit" "fType" "[I") ∈ tb := tb_mem (List.mem_append_right _ (tm_9 (List.mem_of_getElem? (i := 63) rfl))) rfl
theorem wd_142 : (Cond.fieldLink "WasmMergeModel$Unit" 50 "WasmMergeModel$Unit" "fImport" "[I") ∈ tb := tb_mem (List.mem_append_right _ (tm_9 (List.mem_of_getElem? (i := 65) rfl))) rfl
theorem wd_143 : (Cond.fieldLink "WasmMergeModel$Unit" 53 "WasmMergeModel$Unit" "gType" "[I") ∈ tb := tb_mem (List.mem_append_right _ (tm_9 (List.mem_of_getElem? (i := 67) rfl))) rfl
theorem wd_144 : (Cond.fieldLink "WasmMergeModel$Unit" 56 "WasmMergeModel$Unit" "gImport" "[I") ∈ tb := tb_mem (List.mem_append_right _ (tm_9 (List.mem_of_getElem? (i := 69) rfl))) rfl
theorem wd_145 : (Cond.fieldLink "WasmMergeModel$Unit" 59 "WasmMergeModel$Unit" "gOp" "[I") ∈ tb := tb_mem (List.mem_append_right _ (tm_9 (List.mem_of_getElem? (i := 71) rfl))) rfl
theorem wd_146 : (Cond.arrayClass .boolean) ∈ tb := tb_mem (List.mem_append_right _ (tm_9 (List.mem_of_getElem? (i := 238) rfl))) rfl
theorem wd_147 : (Cond.fieldLink "WasmMergeModel$Unit" 62 "WasmMergeModel$Unit" "gMutable" "[Z") ∈ tb := tb_mem (List.mem_append_right _ (tm_9 (List.mem_of_getElem? (i := 73) rfl))) rfl
theorem wd_148 : (Cond.fieldLink "WasmMergeModel$Unit" 66 "WasmMergeModel$Unit" "gValue" "[J") ∈ tb := tb_mem (List.mem_append_right _ (tm_9 (List.mem_of_getElem? (i := 75) rfl))) rfl
theorem wd_149 : (Cond.fieldLink "WasmMergeModel$Unit" 69 "WasmMergeModel$Unit" "eName" "[I") ∈ tb := tb_mem (List.mem_append_right _ (tm_9 (List.mem_of_getElem? (i := 83) rfl))) rfl
theorem wd_150 : (Cond.fieldLink "WasmMergeModel$Unit" 72 "WasmMergeModel$Unit" "eNameLong" "[I") ∈ tb := tb_mem (List.mem_append_right _ (tm_9 (List.mem_of_getElem? (i := 85) rfl))) rfl
theorem wd_151 : (Cond.fieldLink "WasmMergeModel$Unit" 75 "WasmMergeModel$Unit" "eSort" "[I") ∈ tb := tb_mem (List.mem_append_right _ (tm_9 (List.mem_of_getElem? (i := 87) rfl))) rfl
theorem wd_152 : (Cond.fieldLink "WasmMergeModel$Unit" 78 "WasmMergeModel$Unit" "eIndex" "[I") ∈ tb := tb_mem (List.mem_append_right _ (tm_9 (List.mem_of_getElem? (i := 89) rfl))) rfl
theorem wd_153 : (Cond.fieldLink "WasmMergeModel$Unit" 81 "WasmMergeModel$Unit" "sOp" "[I") ∈ tb := tb_mem (List.mem_append_right _ (tm_9 (List.mem_of_getElem? (i := 91) rfl))) rfl
theorem wd_154 : (Cond.fieldLink "WasmMergeModel$Unit" 84 "WasmMergeModel$Unit" "sMany" "[I") ∈ tb := tb_mem (List.mem_append_right _ (tm_9 (List.mem_of_getElem? (i := 93) rfl))) rfl
theorem wd_155 : (Cond.fieldLink "WasmMergeModel$Unit" 87 "WasmMergeModel$Unit" "sAt" "[I") ∈ tb := tb_mem (List.mem_append_right _ (tm_9 (List.mem_of_getElem? (i := 95) rfl))) rfl
theorem wd_156 : (Cond.fieldLink "WasmMergeModel$Unit" 90 "WasmMergeModel$Unit" "sIndex" "[I") ∈ tb := tb_mem (List.mem_append_right _ (tm_9 (List.mem_of_getElem? (i := 97) rfl))) rfl
theorem wd_157 : (Cond.fieldLink "WasmMergeModel$Unit" 93 "WasmMergeModel$Unit" "dOp" "[I") ∈ tb := tb_mem (List.mem_append_right _ (tm_9 (List.mem_of_getElem? (i := 99) rfl))) rfl
theorem wd_158 : (Cond.fieldLink "WasmMergeModel$Unit" 96 "WasmMergeModel$Unit" "dMany" "[I") ∈ tb := tb_mem (List.mem_append_right _ (tm_9 (List.mem_of_getElem? (i := 101) rfl))) rfl
theorem wd_159 : (Cond.fieldLink "WasmMergeModel$Unit" 99 "WasmMergeModel$Unit" "dAt" "[I") ∈ tb := tb_mem (List.mem_append_right _ (tm_9 (List.mem_of_getElem? (i := 103) rfl))) rfl
theorem wd_160 : (Cond.fieldLink "WasmMergeModel$Unit" 102 "WasmMergeModel$Unit" "dIndex" "[I") ∈ tb := tb_mem (List.mem_append_right _ (tm_9 (List.mem_of_getElem? (i := 105) rfl))) rfl
theorem wd_161 : (Cond.fieldLink "WasmMergeModel$Unit" 105 "WasmMergeModel$Unit" "sValue" "[J") ∈ tb := tb_mem (List.mem_append_right _ (tm_9 (List.mem_of_getElem? (i := 107) rfl))) rfl
theorem wd_162 : (Cond.fieldLink "WasmMergeModel$Unit" 108 "WasmMergeModel$Unit" "dValue" "[J") ∈ tb := tb_mem (List.mem_append_right _ (tm_9 (List.mem_of_getElem? (i := 109) rfl))) rfl
theorem wd_163 : (Cond.fieldLink "WasmMergeModel$Unit" 111 "WasmMergeModel$Unit" "bAt" "[I") ∈ tb := tb_mem (List.mem_append_right _ (tm_9 (List.mem_of_getElem? (i := 111) rfl))) rfl
theorem wd_164 : (Cond.fieldLink "WasmMergeModel$Unit" 114 "WasmMergeModel$Unit" "bEnd" "[I") ∈ tb := tb_mem (List.mem_append_right _ (tm_9 (List.mem_of_getElem? (i := 113) rfl))) rfl
theorem wd_165 : (Cond.fieldLink "WasmMergeModel$Unit" 117 "WasmMergeModel$Unit" "bLocals" "[I") ∈ tb := tb_mem (List.mem_append_right _ (tm_9 (List.mem_of_getElem? (i := 115) rfl))) rfl
theorem wd_166 : (Cond.fieldLink "WasmMergeModel$Unit" 120 "WasmMergeModel$Unit" "local" "[I") ∈ tb := tb_mem (List.mem_append_right _ (tm_9 (List.mem_of_getElem? (i := 117) rfl))) rfl
theorem wd_167 : (Cond.fieldLink "WasmMergeModel$Unit" 123 "WasmMergeModel$Unit" "otherwise" "[I") ∈ tb := tb_mem (List.mem_append_right _ (tm_9 (List.mem_of_getElem? (i := 119) rfl))) rfl
theorem wd_168 : (Cond.fieldLink "WasmMergeModel$Unit" 126 "WasmMergeModel$Unit" "ends" "[I") ∈ tb := tb_mem (List.mem_append_right _ (tm_9 (List.mem_of_getElem? (i := 121) rfl))) rfl
theorem wd_169 : (Cond.methodLink "WasmMergeModel" 1 ⟨"java/lang/Object", "<init>", "()V"⟩) ∈ tb := tb_mem (List.mem_append_right _ (tm_9 (List.mem_of_getElem? (i := 20) rfl))) rfl
theorem wd_170 : (Cond.fieldLink "WasmMergeModel" 9 "WasmMergeModel" "row" "[B") ∈ tb := tb_mem (List.mem_append_right _ (tm_10 (List.mem_of_getElem? (i := 0) rfl))) rfl
theorem wd_171 : (Cond.classLink "WasmMergeModel" 13 "WasmMergeModel$Unit") ∈ tb := tb_mem (List.mem_append_right _ (tm_9 (List.mem_of_getElem? (i := 21) rfl))) rfl
theorem wd_172 : (Cond.instantiable "WasmMergeModel$Unit" 57) ∈ tb := tb_mem (List.mem_append_right _ (tm_9 (List.mem_of_getElem? (i := 23) rfl))) rfl
theorem wd_173 : (Cond.initialized "WasmMergeModel$Unit") ∈ tb := tb_mem (List.mem_append_right _ (tm_1 (List.mem_of_getElem? (i := 13) rfl))) rfl
theorem wd_174 : (Cond.code ⟨"WasmMergeModel$Unit", "<init>", "()V"⟩ prog_16_method_1_code 1 none) ∈ tb := tb_mem (List.mem_append_right _ (tm_9 (List.mem_of_getElem? (i := 26) rfl))) rfl
theorem wd_175 : (Cond.instanceMethod ⟨"WasmMergeModel$Unit", "<init>", "()V"⟩) ∈ tb := tb_mem (List.mem_append_right _ (tm_9 (List.mem_of_getElem? (i := 25) rfl))) rfl
theorem wd_176 : (Cond.fieldLink "WasmMergeModel" 16 "WasmMergeModel" "unit" "[LWasmMergeModel$Unit;") ∈ tb := tb_mem (List.mem_append_right _ (tm_10 (List.mem_of_getElem? (i := 1) rfl))) rfl
theorem wd_177 : (Cond.fieldLink "WasmMergeModel" 20 "WasmMergeModel" "blockAt" "[I") ∈ tb := tb_mem (List.mem_append_right _ (tm_10 (List.mem_of_getElem? (i := 19) rfl))) rfl
theorem wd_178 : (Cond.fieldLink "WasmMergeModel" 24 "WasmMergeModel" "blockKind" "[I") ∈ tb := tb_mem (List.mem_append_right _ (tm_10 (List.mem_of_getElem? (i := 20) rfl))) rfl
theorem wd_179 : (Cond.fieldLink "WasmMergeModel" 27 "WasmMergeModel" "vt" "[I") ∈ tb := tb_mem (List.mem_append_right _ (tm_10 (List.mem_of_getElem? (i := 21) rfl))) rfl
theorem wd_180 : (Cond.fieldLink "WasmMergeModel" 30 "WasmMergeModel" "bTakes" "[I") ∈ tb := tb_mem (List.mem_append_right _ (tm_10 (List.mem_of_getElem? (i := 22) rfl))) rfl
theorem wd_181 : (Cond.fieldLink "WasmMergeModel" 33 "WasmMergeModel" "bLeaves" "[I") ∈ tb := tb_mem (List.mem_append_right _ (tm_10 (List.mem_of_getElem? (i := 23) rfl))) rfl
theorem wd_182 : (Cond.fieldLink "WasmMergeModel" 36 "WasmMergeModel" "bHeight" "[I") ∈ tb := tb_mem (List.mem_append_right _ (tm_10 (List.mem_of_getElem? (i := 24) rfl))) rfl
theorem wd_183 : (Cond.fieldLink "WasmMergeModel" 39 "WasmMergeModel" "bOp" "[I") ∈ tb := tb_mem (List.mem_append_right _ (tm_10 (List.mem_of_getElem? (i := 25) rfl))) rfl
theorem wd_184 : (Cond.fieldLink "WasmMergeModel" 42 "WasmMergeModel" "bDead" "[Z") ∈ tb := tb_mem (List.mem_append_right _ (tm_10 (List.mem_of_getElem? (i := 26) rfl))) rfl
theorem wd_185 : (Cond.fieldLink "WasmMergeModel" 46 "WasmMergeModel" "fits" "[I") ∈ tb := tb_mem (List.mem_append_right _ (tm_10 (List.mem_of_getElem? (i := 29) rfl))) rfl
theorem wd_186 : (Cond.fieldLink "WasmMergeModel" 49 "WasmMergeModel" "globals" "[J") ∈ tb := tb_mem (List.mem_append_right _ (tm_10 (List.mem_of_getElem? (i := 30) rfl))) rfl
theorem wd_187 : (Cond.fieldLink "WasmMergeModel" 53 "WasmMergeModel" "stack" "[J") ∈ tb := tb_mem (List.mem_append_right _ (tm_10 (List.mem_of_getElem? (i := 31) rfl))) rfl
theorem wd_188 : (Cond.fieldLink "WasmMergeModel" 56 "WasmMergeModel" "given" "[J") ∈ tb := tb_mem (List.mem_append_right _ (tm_10 (List.mem_of_getElem? (i := 32) rfl))) rfl
theorem wd_189 : (Cond.fieldLink "WasmMergeModel" 59 "WasmMergeModel" "output" "[J") ∈ tb := tb_mem (List.mem_append_right _ (tm_10 (List.mem_of_getElem? (i := 33) rfl))) rfl
theorem wd_190 : (Cond.constant "WasmMergeModel" 62 (131072)) ∈ tb := tb_mem (List.mem_append_right _ (tm_9 (List.mem_of_getElem? (i := 239) rfl))) rfl
theorem wd_191 : (Cond.fieldLink "WasmMergeModel" 63 "WasmMergeModel" "memory" "[B") ∈ tb := tb_mem (List.mem_append_right _ (tm_10 (List.mem_of_getElem? (i := 34) rfl))) rfl
theorem wd_192 : (Cond.fieldLink "WasmMergeModel" 66 "WasmMergeModel" "table" "[I") ∈ tb := tb_mem (List.mem_append_right _ (tm_10 (List.mem_of_getElem? (i := 35) rfl))) rfl
theorem wd_193 : (Cond.fieldLink "WasmMergeModel" 69 "WasmMergeModel" "labelAt" "[I") ∈ tb := tb_mem (List.mem_append_right _ (tm_10 (List.mem_of_getElem? (i := 36) rfl))) rfl
theorem wd_194 : (Cond.fieldLink "WasmMergeModel" 72 "WasmMergeModel" "labelHigh" "[I") ∈ tb := tb_mem (List.mem_append_right _ (tm_10 (List.mem_of_getElem? (i := 37) rfl))) rfl
theorem wd_195 : (Cond.fieldLink "WasmMergeModel" 75 "WasmMergeModel" "labelLeaves" "[I") ∈ tb := tb_mem (List.mem_append_right _ (tm_10 (List.mem_of_getElem? (i := 38) rfl))) rfl
theorem wd_196 : (Cond.fieldLink "WasmMergeModel" 78 "WasmMergeModel" "labelOp" "[I") ∈ tb := tb_mem (List.mem_append_right _ (tm_10 (List.mem_of_getElem? (i := 39) rfl))) rfl
theorem wd_197 : (Cond.fieldLink "WasmMerge" 61 "WasmMerge" "rowLength" "I") ∈ tb := tb_mem (List.mem_append_right _ (tm_3 (List.mem_of_getElem? (i := 124) rfl))) rfl
theorem wd_198 : (Cond.code ⟨"WasmMerge", "feedWord", "(I)V"⟩ prog_1_method_3_code 3 none) ∈ tb := tb_mem (List.mem_append_right _ (tm_4 (List.mem_of_getElem? (i := 29) rfl))) rfl
theorem wd_199 : (Cond.initialized "WasmMerge") ∈ tb := tb_mem (List.mem_append_right _ (tm_1 (List.mem_of_getElem? (i := 1) rfl))) rfl
theorem wd_200 : (Cond.instanceMethod ⟨"WasmMerge", "feedWord", "(I)V"⟩) ∈ tb := tb_mem (List.mem_append_right _ (tm_4 (List.mem_of_getElem? (i := 28) rfl))) rfl
theorem wd_201 : (Cond.methodLink "WasmMerge" 72 ⟨"WasmMerge", "feedWord", "(I)V"⟩) ∈ tb := tb_mem (List.mem_append_right _ (tm_4 (List.mem_of_getElem? (i := 26) rfl))) rfl
theorem wd_202 : (Cond.selects "WasmMerge" ⟨"WasmMerge", "feedWord", "(I)V"⟩ ⟨"WasmMerge", "feedWord", "(I)V"⟩) ∈ tb := tb_mem (List.mem_append_left _ (List.mem_map.mpr ⟨_, List.mem_of_getElem? (l := lw_privs) (i := 0) rfl, rfl⟩)) rfl
theorem wd_203 : (Cond.fieldLink "WasmMerge" 113 "WasmMerge" "merged" "Z") ∈ tb := tb_mem (List.mem_append_right _ (tm_3 (List.mem_of_getElem? (i := 133) rfl))) rfl
theorem wd_204 : (Cond.fieldLink "WasmMerge" 120 "WasmMerge" "running" "Z") ∈ tb := tb_mem (List.mem_append_right _ (tm_3 (List.mem_of_getElem? (i := 134) rfl))) rfl
theorem wd_205 : (Cond.fieldLink "WasmMerge" 123 "WasmMerge" "argumentCount" "I") ∈ tb := tb_mem (List.mem_append_right _ (tm_3 (List.mem_of_getElem? (i := 132) rfl))) rfl
theorem wd_206 : (Cond.fieldLink "WasmMerge" 81 "WasmMerge" "moduleCount" "I") ∈ tb := tb_mem (List.mem_append_right _ (tm_3 (List.mem_of_getElem? (i := 126) rfl))) rfl
theorem wd_207 : (Cond.code ⟨"WasmMerge", "dropMerge", "()V"⟩ prog_1_method_8_code 1 none) ∈ tb := tb_mem (List.mem_append_right _ (tm_3 (List.mem_of_getElem? (i := 170) rfl))) rfl
theorem wd_208 : (Cond.instanceMethod ⟨"WasmMerge", "dropMerge", "()V"⟩) ∈ tb := tb_mem (List.mem_append_right _ (tm_3 (List.mem_of_getElem? (i := 169) rfl))) rfl
theorem wd_209 : (Cond.methodLink "WasmMerge" 86 ⟨"WasmMerge", "dropMerge", "()V"⟩) ∈ tb := tb_mem (List.mem_append_right _ (tm_3 (List.mem_of_getElem? (i := 167) rfl))) rfl
theorem wd_210 : (Cond.selects "WasmMerge" ⟨"WasmMerge", "dropMerge", "()V"⟩ ⟨"WasmMerge", "dropMerge", "()V"⟩) ∈ tb := tb_mem (List.mem_append_left _ (List.mem_map.mpr ⟨_, List.mem_of_getElem? (l := lw_privs) (i := 1) rfl, rfl⟩)) rfl
theorem wd_211 : (Cond.fieldLink "WasmMerge" 93 "WasmMerge" "fault" "I") ∈ tb := tb_mem (List.mem_append_right _ (tm_3 (List.mem_of_getElem? (i := 135) rfl))) rfl
theorem wd_212 : (Cond.fieldLink "WasmMerge" 131 "WasmMerge$Machine" "trap" "I") ∈ tb := tb_mem (List.mem_append_right _ (tm_3 (List.mem_of_getElem? (i := 74) rfl))) rfl
theorem wd_213 : (Cond.fieldLink "WasmMerge$Machine" 115 "WasmMerge$Machine" "outputCount" "I") ∈ tb := tb_mem (List.mem_append_right _ (tm_3 (List.mem_of_getElem? (i := 82) rfl))) rfl
theorem wd_214 : (Cond.code ⟨"WasmMerge$Machine", "takeOutput", "()J"⟩ prog_5_method_37_code 3 (some .long)) ∈ tb := tb_mem (List.mem_append_right _ (tm_3 (List.mem_of_getElem? (i := 186) rfl))) rfl
theorem wd_215 : (Cond.instanceMethod ⟨"WasmMerge$Machine", "takeOutput", "()J"⟩) ∈ tb := tb_mem (List.mem_append_right _ (tm_3 (List.mem_of_getElem? (i := 184) rfl))) rfl
theorem wd_216 : (Cond.methodLink "WasmMerge" 187 ⟨"WasmMerge$Machine", "takeOutput", "()J"⟩) ∈ tb := tb_mem (List.mem_append_right _ (tm_3 (List.mem_of_getElem? (i := 183) rfl))) rfl
theorem wd_217 : (Cond.selects "WasmMerge$Machine" ⟨"WasmMerge$Machine", "takeOutput", "()J"⟩ ⟨"WasmMerge$Machine", "takeOutput", "()J"⟩) ∈ tb := tb_mem (List.mem_append_right _ (tm_3 (List.mem_of_getElem? (i := 185) rfl))) rfl
theorem wd_218 : (Cond.classLink "WasmMerge" 65 "java/lang/IllegalStateException") ∈ tb := tb_mem (List.mem_append_right _ (tm_3 (List.mem_of_getElem? (i := 195) rfl))) rfl
theorem wd_219 : (Cond.initialized "java/lang/IllegalStateException") ∈ tb := tb_mem (List.mem_append_right _ (tm_1 (List.mem_of_getElem? (i := 17) rfl))) rfl
theorem wd_220 : (Cond.classLink "WasmMerge" 147 "java/lang/IndexOutOfBoundsException") ∈ tb := tb_mem (List.mem_append_right _ (tm_8 (List.mem_of_getElem? (i := 182) rfl))) rfl
theorem wd_221 : (Cond.initialized "java/lang/IndexOutOfBoundsException") ∈ tb := tb_mem (List.mem_append_right _ (tm_1 (List.mem_of_getElem? (i := 33) rfl))) rfl
theorem wd_222 : (Cond.classLink "WasmMerge" 76 "java/lang/IllegalArgumentException") ∈ tb := tb_mem (List.mem_append_right _ (tm_4 (List.mem_of_getElem? (i := 38) rfl))) rfl
theorem wd_223 : (Cond.initialized "java/lang/IllegalArgumentException") ∈ tb := tb_mem (List.mem_append_right _ (tm_1 (List.mem_of_getElem? (i := 18) rfl))) rfl
theorem wd_224 : (Cond.fieldLink "WasmMerge$Module" 60 "WasmMerge$Module" "typeCount" "I") ∈ tb := tb_mem (List.mem_append_right _ (tm_1 (List.mem_of_getElem? (i := 181) rfl))) rfl
theorem wd_225 : (Cond.fieldLink "WasmMerge$Module" 63 "WasmMerge$Module" "importCount" "I") ∈ tb := tb_mem (List.mem_append_right _ (tm_1 (List.mem_of_getElem? (i := 188) rfl))) rfl
theorem wd_226 : (Cond.fieldLink "WasmMerge$Module" 66 "WasmMerge$Module" "functionCount" "I") ∈ tb := tb_mem (List.mem_append_right _ (tm_1 (List.mem_of_getElem? (i := 195) rfl))) rfl
theorem wd_227 : (Cond.fieldLink "WasmMerge$Module" 69 "WasmMerge$Module" "globalCount" "I") ∈ tb := tb_mem (List.mem_append_right _ (tm_1 (List.mem_of_getElem? (i := 204) rfl))) rfl
theorem wd_228 : (Cond.fieldLink "WasmMerge$Module" 72 "WasmMerge$Module" "exportCount" "I") ∈ tb := tb_mem (List.mem_append_right _ (tm_1 (List.mem_of_getElem? (i := 214) rfl))) rfl
theorem wd_229 : (Cond.fieldLink "WasmMerge$Module" 75 "WasmMerge$Module" "elementCount" "I") ∈ tb := tb_mem (List.mem_append_right _ (tm_1 (List.mem_of_getElem? (i := 223) rfl))) rfl
theorem wd_230 : (Cond.fieldLink "WasmMerge$Module" 78 "WasmMerge$Module" "dataCount" "I") ∈ tb := tb_mem (List.mem_append_right _ (tm_1 (List.mem_of_getElem? (i := 231) rfl))) rfl
theorem wd_231 : (Cond.fieldLink "WasmMerge$Module" 81 "WasmMerge$Module" "tableCount" "I") ∈ tb := tb_mem (List.mem_append_right _ (tm_1 (List.mem_of_getElem? (i := 239) rfl))) rfl
theorem wd_232 : (Cond.fieldLink "WasmMerge$Module" 84 "WasmMerge$Module" "memoryCount" "I") ∈ tb := tb_mem (List.mem_append_right _ (tm_2 (List.mem_of_getElem? (i := 5) rfl))) rfl
theorem wd_233 : (Cond.fieldLink "WasmMerge$Reader" 19 "WasmMerge$Reader" "at" "I") ∈ tb := tb_mem (List.mem_append_right _ (tm_2 (List.mem_of_getElem? (i := 66) rfl))) rfl
theorem wd_234 : (Cond.fieldLink "WasmMerge$Reader" 23 "WasmMerge$Reader" "limit" "I") ∈ tb := tb_mem (List.mem_append_right _ (tm_2 (List.mem_of_getElem? (i := 68) rfl))) rfl
theorem wd_235 : (Cond.fieldLink "WasmMerge$Reader" 26 "WasmMerge$Reader" "bad" "Z") ∈ tb := tb_mem (List.mem_append_right _ (tm_2 (List.mem_of_getElem? (i := 70) rfl))) rfl
theorem wd_236 : (Cond.code ⟨"WasmMerge$Reader", "u8", "()I"⟩ prog_11_method_3_code 2 (some .int)) ∈ tb := tb_mem (List.mem_append_right _ (tm_4 (List.mem_of_getElem? (i := 85) rfl))) rfl
theorem wd_237 : (Cond.instanceMethod ⟨"WasmMerge$Reader", "u8", "()I"⟩) ∈ tb := tb_mem (List.mem_append_right _ (tm_4 (List.mem_of_getElem? (i := 83) rfl))) rfl
theorem wd_238 : (Cond.methodLink "WasmMerge$Parser" 95 ⟨"WasmMerge$Reader", "u8", "()I"⟩) ∈ tb := tb_mem (List.mem_append_right _ (tm_4 (List.mem_of_getElem? (i := 82) rfl))) rfl
theorem wd_239 : (Cond.selects "WasmMerge$Reader" ⟨"WasmMerge$Reader", "u8", "()I"⟩ ⟨"WasmMerge$Reader", "u8", "()I"⟩) ∈ tb := tb_mem (List.mem_append_right _ (tm_4 (List.mem_of_getElem? (i := 84) rfl))) rfl
theorem wd_240 : (Cond.fieldLink "WasmMerge$Parser" 86 "WasmMerge$Reader" "bad" "Z") ∈ tb := tb_mem (List.mem_append_right _ (tm_2 (List.mem_of_getElem? (i := 71) rfl))) rfl
theorem wd_241 : (Cond.constant "WasmMerge$Parser" 123 (6386541)) ∈ tb := tb_mem (List.mem_append_right _ (tm_4 (List.mem_of_getElem? (i := 86) rfl))) rfl
theorem wd_242 : (Cond.code ⟨"WasmMerge$Module", "reset", "()V"⟩ prog_6_method_2_code 1 none) ∈ tb := tb_mem (List.mem_append_right _ (tm_4 (List.mem_of_getElem? (i := 70) rfl))) rfl
theorem wd_243 : (Cond.instanceMethod ⟨"WasmMerge$Module", "reset", "()V"⟩) ∈ tb := tb_mem (List.mem_append_right _ (tm_4 (List.mem_of_getElem? (i := 68) rfl))) rfl
theorem wd_244 : (Cond.methodLink "WasmMerge$Parser" 47 ⟨"WasmMerge$Module", "reset", "()V"⟩) ∈ tb := tb_mem (List.mem_append_right _ (tm_4 (List.mem_of_getElem? (i := 67) rfl))) rfl
theorem wd_245 : (Cond.selects "WasmMerge$Module" ⟨"WasmMerge$Module", "reset", "()V"⟩ ⟨"WasmMerge$Module", "reset", "()V"⟩) ∈ tb := tb_mem (List.mem_append_right _ (tm_4 (List.mem_of_getElem? (i := 69) rfl))) rfl
theorem wd_246 : (Cond.fieldLink "WasmMerge$Parser" 52 "WasmMerge$Module" "bytes" "[B") ∈ tb := tb_mem (List.mem_append_right _ (tm_1 (List.mem_of_getElem? (i := 173) rfl))) rfl
theorem wd_247 : (Cond.methodLink "WasmMerge$Parser" 56 ⟨"java/lang/System", "arraycopy", "(Ljava/lang/Object;ILjava/lang/Object;II)V"⟩) ∈ tb := tb_mem (List.mem_append_right _ (tm_4 (List.mem_of_getElem? (i := 71) rfl))) rfl
theorem wd_248 : (Cond.native ⟨"java/lang/System", "arraycopy", "(Ljava/lang/Object;ILjava/lang/Object;II)V"⟩) ∈ tb := tb_mem (List.mem_append_right _ (tm_4 (List.mem_of_getElem? (i := 73) rfl))) rfl
theorem wd_249 : (Cond.static ⟨"java/lang/System", "arraycopy", "(Ljava/lang/Object;ILjava/lang/Object;II)V"⟩) ∈ tb := tb_mem (List.mem_append_right _ (tm_4 (List.mem_of_getElem? (i := 72) rfl))) rfl
theorem wd_250 : (Cond.initialized "java/lang/System") ∈ tb := tb_mem (List.mem_append_right _ (tm_1 (List.mem_of_getElem? (i := 19) rfl))) rfl
theorem wd_251 : (Cond.code ⟨"WasmMerge$Reader", "open", "([BII)V"⟩ prog_11_method_2_code 4 none) ∈ tb := tb_mem (List.mem_append_right _ (tm_4 (List.mem_of_getElem? (i := 77) rfl))) rfl
theorem wd_252 : (Cond.instanceMethod ⟨"WasmMerge$Reader", "open", "([BII)V"⟩) ∈ tb := tb_mem (List.mem_append_right _ (tm_4 (List.mem_of_getElem? (i := 75) rfl))) rfl
theorem wd_253 : (Cond.methodLink "WasmMerge$Parser" 62 ⟨"WasmMerge$Reader", "open", "([BII)V"⟩) ∈ tb := tb_mem (List.mem_append_right _ (tm_4 (List.mem_of_getElem? (i := 74) rfl))) rfl
theorem wd_254 : (Cond.selects "WasmMerge$Reader" ⟨"WasmMerge$Reader", "open", "([BII)V"⟩ ⟨"WasmMerge$Reader", "open", "([BII)V"⟩) ∈ tb := tb_mem (List.mem_append_right _ (tm_4 (List.mem_of_getElem? (i := 76) rfl))) rfl
theorem wd_255 : (Cond.fieldLink "WasmMerge$Parser" 66 "WasmMerge$Parser" "over" "Z") ∈ tb := tb_mem (List.mem_append_right _ (tm_2 (List.mem_of_getElem? (i := 115) rfl))) rfl
theorem wd_256 : (Cond.fieldLink "WasmMerge$Parser" 70 "WasmMerge$Parser" "wrongLimits" "Z") ∈ tb := tb_mem (List.mem_append_right _ (tm_2 (List.mem_of_getElem? (i := 116) rfl))) rfl
theorem wd_257 : (Cond.fieldLink "WasmMerge$Parser" 73 "WasmMerge$Parser" "firstOwn" "I") ∈ tb := tb_mem (List.mem_append_right _ (tm_2 (List.mem_of_getElem? (i := 117) rfl))) rfl
theorem wd_258 : (Cond.fieldLink "WasmMerge$Parser" 77 "WasmMerge$Parser" "ownFunctions" "I") ∈ tb := tb_mem (List.mem_append_right _ (tm_2 (List.mem_of_getElem? (i := 118) rfl))) rfl
theorem wd_259 : (Cond.fieldLink "WasmMerge$Parser" 80 "WasmMerge$Parser" "bodies" "I") ∈ tb := tb_mem (List.mem_append_right _ (tm_2 (List.mem_of_getElem? (i := 119) rfl))) rfl
theorem wd_260 : (Cond.code ⟨"WasmMerge$Parser", "readHeader", "()V"⟩ prog_8_method_3_code 4 none) ∈ tb := tb_mem (List.mem_append_right _ (tm_4 (List.mem_of_getElem? (i := 81) rfl))) rfl
theorem wd_261 : (Cond.instanceMethod ⟨"WasmMerge$Parser", "readHeader", "()V"⟩) ∈ tb := tb_mem (List.mem_append_right _ (tm_4 (List.mem_of_getElem? (i := 80) rfl))) rfl
theorem wd_262 : (Cond.methodLink "WasmMerge$Parser" 83 ⟨"WasmMerge$Parser", "readHeader", "()V"⟩) ∈ tb := tb_mem (List.mem_append_right _ (tm_4 (List.mem_of_getElem? (i := 78) rfl))) rfl
theorem wd_263 : (Cond.selects "WasmMerge$Parser" ⟨"WasmMerge$Parser", "readHeader", "()V"⟩ ⟨"WasmMerge$Parser", "readHeader", "()V"⟩) ∈ tb := tb_mem (List.mem_append_left _ (List.mem_map.mpr ⟨_, List.mem_of_getElem? (l := lw_privs) (i := 2) rfl, rfl⟩)) rfl
theorem wd_264 : (Cond.code ⟨"WasmMerge$Parser", "parse", "([BILWasmMerge$Module;)I"⟩ prog_8_method_2_code 8 (some .int)) ∈ tb := tb_mem (List.mem_append_right _ (tm_4 (List.mem_of_getElem? (i := 66) rfl))) rfl
theorem wd_265 : (Cond.instanceMethod ⟨"WasmMerge$Parser", "parse", "([BILWasmMerge$Module;)I"⟩) ∈ tb := tb_mem (List.mem_append_right _ (tm_4 (List.mem_of_getElem? (i := 64) rfl))) rfl
theorem wd_266 : (Cond.methodLink "WasmMerge" 89 ⟨"WasmMerge$Parser", "parse", "([BILWasmMerge$Module;)I"⟩) ∈ tb := tb_mem (List.mem_append_right _ (tm_4 (List.mem_of_getElem? (i := 63) rfl))) rfl
theorem wd_267 : (Cond.selects "WasmMerge$Parser" ⟨"WasmMerge$Parser", "parse", "([BILWasmMerge$Module;)I"⟩ ⟨"WasmMerge$Parser", "parse", "([BILWasmMerge$Module;)I"⟩) ∈ tb := tb_mem (List.mem_append_right _ (tm_4 (List.mem_of_getElem? (i := 65) rfl))) rfl
theorem wd_268 : (Cond.classLink "WasmMerge" 100 "java/lang/UnsupportedOperationException") ∈ tb := tb_mem (List.mem_append_right _ (tm_6 (List.mem_of_getElem? (i := 11) rfl))) rfl
theorem wd_269 : (Cond.initialized "java/lang/UnsupportedOperationException") ∈ tb := tb_mem (List.mem_append_right _ (tm_1 (List.mem_of_getElem? (i := 22) rfl))) rfl
theorem wd_270 : (Cond.fieldLink "WasmMergeModel" 610 "WasmMergeModel" "rows" "I") ∈ tb := tb_mem (List.mem_append_right _ (tm_10 (List.mem_of_getElem? (i := 2) rfl))) rfl
theorem wd_271 : (Cond.fieldLink "WasmMergeModel" 81 "WasmMergeModel" "thrown" "I") ∈ tb := tb_mem (List.mem_append_right _ (tm_10 (List.mem_of_getElem? (i := 6) rfl))) rfl
theorem wd_272 : (Cond.code ⟨"WasmMergeModel", "four", "(I)V"⟩ prog_14_method_68_code 3 none) ∈ tb := tb_mem (List.mem_append_right _ (tm_10 (List.mem_of_getElem? (i := 159) rfl))) rfl
theorem wd_273 : (Cond.initialized "WasmMergeModel") ∈ tb := tb_mem (List.mem_append_right _ (tm_1 (List.mem_of_getElem? (i := 12) rfl))) rfl
theorem wd_274 : (Cond.instanceMethod ⟨"WasmMergeModel", "four", "(I)V"⟩) ∈ tb := tb_mem (List.mem_append_right _ (tm_10 (List.mem_of_getElem? (i := 158) rfl))) rfl
theorem wd_275 : (Cond.methodLink "WasmMergeModel" 613 ⟨"WasmMergeModel", "four", "(I)V"⟩) ∈ tb := tb_mem (List.mem_append_right _ (tm_10 (List.mem_of_getElem? (i := 156) rfl))) rfl
theorem wd_276 : (Cond.selects "WasmMergeModel" ⟨"WasmMergeModel", "four", "(I)V"⟩ ⟨"WasmMergeModel", "four", "(I)V"⟩) ∈ tb := tb_mem (List.mem_append_left _ (List.mem_map.mpr ⟨_, List.mem_of_getElem? (l := lw_privs) (i := 3) rfl, rfl⟩)) rfl
theorem wd_277 : (Cond.fieldLink "WasmMergeModel" 616 "WasmMergeModel" "isMerged" "Z") ∈ tb := tb_mem (List.mem_append_right _ (tm_10 (List.mem_of_getElem? (i := 7) rfl))) rfl
theorem wd_278 : (Cond.fieldLink "WasmMergeModel" 619 "WasmMergeModel" "isRun" "Z") ∈ tb := tb_mem (List.mem_append_right _ (tm_10 (List.mem_of_getElem? (i := 8) rfl))) rfl
theorem wd_279 : (Cond.fieldLink "WasmMergeModel" 622 "WasmMergeModel" "givenMany" "I") ∈ tb := tb_mem (List.mem_append_right _ (tm_10 (List.mem_of_getElem? (i := 47) rfl))) rfl
theorem wd_280 : (Cond.fieldLink "WasmMergeModel" 447 "WasmMergeModel" "units" "I") ∈ tb := tb_mem (List.mem_append_right _ (tm_10 (List.mem_of_getElem? (i := 3) rfl))) rfl
theorem wd_281 : (Cond.code ⟨"WasmMergeModel", "gone", "()V"⟩ prog_14_method_70_code 1 none) ∈ tb := tb_mem (List.mem_append_right _ (tm_10 (List.mem_of_getElem? (i := 173) rfl))) rfl
theorem wd_282 : (Cond.instanceMethod ⟨"WasmMergeModel", "gone", "()V"⟩) ∈ tb := tb_mem (List.mem_append_right _ (tm_10 (List.mem_of_getElem? (i := 172) rfl))) rfl
theorem wd_283 : (Cond.methodLink "WasmMergeModel" 628 ⟨"WasmMergeModel", "gone", "()V"⟩) ∈ tb := tb_mem (List.mem_append_right _ (tm_10 (List.mem_of_getElem? (i := 170) rfl))) rfl
theorem wd_284 : (Cond.selects "WasmMergeModel" ⟨"WasmMergeModel", "gone", "()V"⟩ ⟨"WasmMergeModel", "gone", "()V"⟩) ∈ tb := tb_mem (List.mem_append_left _ (List.mem_map.mpr ⟨_, List.mem_of_getElem? (l := lw_privs) (i := 4) rfl, rfl⟩)) rfl
theorem wd_285 : (Cond.code ⟨"WasmMergeModel", "isExport", "(III)Z"⟩ prog_14_method_79_code 4 (some .boolean)) ∈ tb := tb_mem (List.mem_append_right _ (tm_12 (List.mem_of_getElem? (i := 58) rfl))) rfl
theorem wd_286 : (Cond.instanceMethod ⟨"WasmMergeModel", "isExport", "(III)Z"⟩) ∈ tb := tb_mem (List.mem_append_right _ (tm_12 (List.mem_of_getElem? (i := 57) rfl))) rfl
theorem wd_287 : (Cond.methodLink "WasmMergeModel" 659 ⟨"WasmMergeModel", "isExport", "(III)Z"⟩) ∈ tb := tb_mem (List.mem_append_right _ (tm_12 (List.mem_of_getElem? (i := 55) rfl))) rfl
theorem wd_288 : (Cond.selects "WasmMergeModel" ⟨"WasmMergeModel", "isExport", "(III)Z"⟩ ⟨"WasmMergeModel", "isExport", "(III)Z"⟩) ∈ tb := tb_mem (List.mem_append_left _ (List.mem_map.mpr ⟨_, List.mem_of_getElem? (l := lw_privs) (i := 5) rfl, rfl⟩)) rfl
theorem wd_289 : (Cond.fieldLink "WasmMergeModel" 625 "WasmMergeModel" "fault" "I") ∈ tb := tb_mem (List.mem_append_right _ (tm_10 (List.mem_of_getElem? (i := 4) rfl))) rfl
theorem wd_290 : (Cond.fieldLink "WasmMergeModel" 653 "WasmMergeModel" "trap" "I") ∈ tb := tb_mem (List.mem_append_right _ (tm_10 (List.mem_of_getElem? (i := 5) rfl))) rfl
theorem wd_291 : (Cond.fieldLink "WasmMergeModel" 478 "WasmMergeModel" "outputs" "I") ∈ tb := tb_mem (List.mem_append_right _ (tm_10 (List.mem_of_getElem? (i := 48) rfl))) rfl
theorem wd_292 : (Cond.methodLink "java/lang/Throwable" 1 ⟨"java/lang/Object", "<init>", "()V"⟩) ∈ tb := tb_mem (List.mem_append_right _ (tm_3 (List.mem_of_getElem? (i := 220) rfl))) rfl
theorem wd_293 : (Cond.fieldLink "java/lang/Throwable" 7 "java/lang/Throwable" "cause" "Ljava/lang/Throwable;") ∈ tb := tb_mem (List.mem_append_right _ (tm_4 (List.mem_of_getElem? (i := 15) rfl))) rfl
theorem wd_294 : (Cond.initialized "java/lang/Throwable") ∈ tb := tb_mem (List.mem_append_right _ (tm_1 (List.mem_of_getElem? (i := 14) rfl))) rfl
theorem wd_295 : (Cond.fieldLink "java/lang/Throwable" 13 "java/lang/Throwable" "UNASSIGNED_STACK" "[Ljava/lang/StackTraceElement;") ∈ tb := tb_mem (List.mem_append_right _ (tm_3 (List.mem_of_getElem? (i := 221) rfl))) rfl
theorem wd_296 : (Cond.fieldLink "java/lang/Throwable" 17 "java/lang/Throwable" "stackTrace" "[Ljava/lang/StackTraceElement;") ∈ tb := tb_mem (List.mem_append_right _ (tm_4 (List.mem_of_getElem? (i := 16) rfl))) rfl
theorem wd_297 : (Cond.fieldLink "java/lang/Throwable" 20 "java/lang/Throwable" "SUPPRESSED_SENTINEL" "Ljava/util/List;") ∈ tb := tb_mem (List.mem_append_right _ (tm_3 (List.mem_of_getElem? (i := 223) rfl))) rfl
theorem wd_298 : (Cond.fieldLink "java/lang/Throwable" 24 "java/lang/Throwable" "suppressedExceptions" "Ljava/util/List;") ∈ tb := tb_mem (List.mem_append_right _ (tm_4 (List.mem_of_getElem? (i := 17) rfl))) rfl
theorem wd_299 : (Cond.fieldLink "java/lang/Throwable" 31 "java/lang/Throwable" "detailMessage" "Ljava/lang/String;") ∈ tb := tb_mem (List.mem_append_right _ (tm_4 (List.mem_of_getElem? (i := 14) rfl))) rfl
theorem wd_300 : (Cond.code ⟨"java/lang/Throwable", "<init>", "(Ljava/lang/String;Ljava/lang/Throwable;ZZ)V"⟩ prog_34_method_5_code 5 none) ∈ tb := tb_mem (List.mem_append_right _ (tm_10 (List.mem_of_getElem? (i := 201) rfl))) rfl
theorem wd_301 : (Cond.instanceMethod ⟨"java/lang/Throwable", "<init>", "(Ljava/lang/String;Ljava/lang/Throwable;ZZ)V"⟩) ∈ tb := tb_mem (List.mem_append_right _ (tm_10 (List.mem_of_getElem? (i := 200) rfl))) rfl
theorem wd_302 : (Cond.methodLink "java/lang/Exception" 16 ⟨"java/lang/Throwable", "<init>", "(Ljava/lang/String;Ljava/lang/Throwable;ZZ)V"⟩) ∈ tb := tb_mem (List.mem_append_right _ (tm_10 (List.mem_of_getElem? (i := 199) rfl))) rfl
theorem wd_303 : (Cond.code ⟨"java/lang/Exception", "<init>", "(Ljava/lang/String;Ljava/lang/Throwable;ZZ)V"⟩ prog_21_method_5_code 5 none) ∈ tb := tb_mem (List.mem_append_right _ (tm_10 (List.mem_of_getElem? (i := 198) rfl))) rfl
theorem wd_304 : (Cond.initialized "java/lang/Exception") ∈ tb := tb_mem (List.mem_append_right _ (tm_1 (List.mem_of_getElem? (i := 15) rfl))) rfl
theorem wd_305 : (Cond.instanceMethod ⟨"java/lang/Exception", "<init>", "(Ljava/lang/String;Ljava/lang/Throwable;ZZ)V"⟩) ∈ tb := tb_mem (List.mem_append_right _ (tm_10 (List.mem_of_getElem? (i := 197) rfl))) rfl
theorem wd_306 : (Cond.methodLink "java/lang/RuntimeException" 16 ⟨"java/lang/Exception", "<init>", "(Ljava/lang/String;Ljava/lang/Throwable;ZZ)V"⟩) ∈ tb := tb_mem (List.mem_append_right _ (tm_10 (List.mem_of_getElem? (i := 196) rfl))) rfl
theorem wd_307 : (Cond.code ⟨"java/lang/RuntimeException", "<init>", "(Ljava/lang/String;Ljava/lang/Throwable;ZZ)V"⟩ prog_28_method_5_code 5 none) ∈ tb := tb_mem (List.mem_append_right _ (tm_10 (List.mem_of_getElem? (i := 195) rfl))) rfl
theorem wd_308 : (Cond.initialized "java/lang/RuntimeException") ∈ tb := tb_mem (List.mem_append_right _ (tm_1 (List.mem_of_getElem? (i := 16) rfl))) rfl
theorem wd_309 : (Cond.instanceMethod ⟨"java/lang/RuntimeException", "<init>", "(Ljava/lang/String;Ljava/lang/Throwable;ZZ)V"⟩) ∈ tb := tb_mem (List.mem_append_right _ (tm_10 (List.mem_of_getElem? (i := 194) rfl))) rfl
theorem wd_310 : (Cond.methodLink "WasmMergeModel$Stop" 1 ⟨"java/lang/RuntimeException", "<init>", "(Ljava/lang/String;Ljava/lang/Throwable;ZZ)V"⟩) ∈ tb := tb_mem (List.mem_append_right _ (tm_10 (List.mem_of_getElem? (i := 193) rfl))) rfl
theorem wd_311 : (Cond.fieldLink "WasmMergeModel$Stop" 7 "WasmMergeModel$Stop" "why" "I") ∈ tb := tb_mem (List.mem_append_right _ (tm_10 (List.mem_of_getElem? (i := 202) rfl))) rfl
theorem wd_312 : (Cond.fieldLink "WasmMergeModel" 85 "WasmMergeModel" "at" "I") ∈ tb := tb_mem (List.mem_append_right _ (tm_10 (List.mem_of_getElem? (i := 10) rfl))) rfl
theorem wd_313 : (Cond.fieldLink "WasmMergeModel" 88 "WasmMergeModel" "end" "I") ∈ tb := tb_mem (List.mem_append_right _ (tm_10 (List.mem_of_getElem? (i := 11) rfl))) rfl
theorem wd_314 : (Cond.classLink "WasmMergeModel" 91 "WasmMergeModel$Stop") ∈ tb := tb_mem (List.mem_append_right _ (tm_10 (List.mem_of_getElem? (i := 168) rfl))) rfl
theorem wd_315 : (Cond.instantiable "WasmMergeModel$Stop" 7) ∈ tb := tb_mem (List.mem_append_right _ (tm_10 (List.mem_of_getElem? (i := 182) rfl))) rfl
theorem wd_316 : (Cond.initialized "WasmMergeModel$Stop") ∈ tb := tb_mem (List.mem_append_right _ (tm_1 (List.mem_of_getElem? (i := 23) rfl))) rfl
theorem wd_317 : (Cond.code ⟨"WasmMergeModel$Stop", "<init>", "(I)V"⟩ prog_15_method_1_code 2 none) ∈ tb := tb_mem (List.mem_append_right _ (tm_10 (List.mem_of_getElem? (i := 192) rfl))) rfl
theorem wd_318 : (Cond.instanceMethod ⟨"WasmMergeModel$Stop", "<init>", "(I)V"⟩) ∈ tb := tb_mem (List.mem_append_right _ (tm_10 (List.mem_of_getElem? (i := 191) rfl))) rfl
theorem wd_319 : (Cond.methodLink "WasmMergeModel" 93 ⟨"WasmMergeModel$Stop", "<init>", "(I)V"⟩) ∈ tb := tb_mem (List.mem_append_right _ (tm_10 (List.mem_of_getElem? (i := 190) rfl))) rfl
theorem wd_320 : (Cond.fieldLink "WasmMergeModel" 96 "WasmMergeModel" "u" "LWasmMergeModel$Unit;") ∈ tb := tb_mem (List.mem_append_right _ (tm_10 (List.mem_of_getElem? (i := 9) rfl))) rfl
theorem wd_321 : (Cond.fieldLink "WasmMergeModel" 137 "WasmMergeModel$Unit" "size" "I") ∈ tb := tb_mem (List.mem_append_right _ (tm_9 (List.mem_of_getElem? (i := 30) rfl))) rfl
theorem wd_322 : (Cond.fieldLink "WasmMergeModel" 116 "WasmMergeModel" "isOver" "Z") ∈ tb := tb_mem (List.mem_append_right _ (tm_10 (List.mem_of_getElem? (i := 12) rfl))) rfl
theorem wd_323 : (Cond.fieldLink "WasmMergeModel" 140 "WasmMergeModel" "isWrong" "Z") ∈ tb := tb_mem (List.mem_append_right _ (tm_10 (List.mem_of_getElem? (i := 13) rfl))) rfl
theorem wd_324 : (Cond.fieldLink "WasmMergeModel" 143 "WasmMergeModel$Unit" "types" "I") ∈ tb := tb_mem (List.mem_append_right _ (tm_9 (List.mem_of_getElem? (i := 31) rfl))) rfl
theorem wd_325 : (Cond.fieldLink "WasmMergeModel" 146 "WasmMergeModel$Unit" "imports" "I") ∈ tb := tb_mem (List.mem_append_right _ (tm_9 (List.mem_of_getElem? (i := 32) rfl))) rfl
theorem wd_326 : (Cond.fieldLink "WasmMergeModel" 149 "WasmMergeModel$Unit" "functions" "I") ∈ tb := tb_mem (List.mem_append_right _ (tm_9 (List.mem_of_getElem? (i := 33) rfl))) rfl
theorem wd_327 : (Cond.fieldLink "WasmMergeModel" 152 "WasmMergeModel$Unit" "ownFunctions" "I") ∈ tb := tb_mem (List.mem_append_right _ (tm_9 (List.mem_of_getElem? (i := 34) rfl))) rfl
theorem wd_328 : (Cond.fieldLink "WasmMergeModel" 155 "WasmMergeModel$Unit" "tables" "I") ∈ tb := tb_mem (List.mem_append_right _ (tm_9 (List.mem_of_getElem? (i := 35) rfl))) rfl
theorem wd_329 : (Cond.fieldLink "WasmMergeModel" 158 "WasmMergeModel$Unit" "memories" "I") ∈ tb := tb_mem (List.mem_append_right _ (tm_9 (List.mem_of_getElem? (i := 36) rfl))) rfl
theorem wd_330 : (Cond.fieldLink "WasmMergeModel" 161 "WasmMergeModel$Unit" "globals" "I") ∈ tb := tb_mem (List.mem_append_right _ (tm_9 (List.mem_of_getElem? (i := 37) rfl))) rfl
theorem wd_331 : (Cond.fieldLink "WasmMergeModel" 163 "WasmMergeModel$Unit" "exports" "I") ∈ tb := tb_mem (List.mem_append_right _ (tm_9 (List.mem_of_getElem? (i := 38) rfl))) rfl
theorem wd_332 : (Cond.fieldLink "WasmMergeModel" 166 "WasmMergeModel$Unit" "elements" "I") ∈ tb := tb_mem (List.mem_append_right _ (tm_9 (List.mem_of_getElem? (i := 39) rfl))) rfl
theorem wd_333 : (Cond.fieldLink "WasmMergeModel" 169 "WasmMergeModel$Unit" "datas" "I") ∈ tb := tb_mem (List.mem_append_right _ (tm_9 (List.mem_of_getElem? (i := 40) rfl))) rfl
theorem wd_334 : (Cond.fieldLink "WasmMergeModel" 172 "WasmMergeModel$Unit" "bodies" "I") ∈ tb := tb_mem (List.mem_append_right _ (tm_9 (List.mem_of_getElem? (i := 41) rfl))) rfl
theorem wd_335 : (Cond.fieldLink "WasmMergeModel" 175 "WasmMergeModel$Unit" "start" "I") ∈ tb := tb_mem (List.mem_append_right _ (tm_9 (List.mem_of_getElem? (i := 42) rfl))) rfl
theorem wd_336 : (Cond.fieldLink "WasmMergeModel" 178 "WasmMergeModel$Unit" "tImport" "I") ∈ tb := tb_mem (List.mem_append_right _ (tm_9 (List.mem_of_getElem? (i := 77) rfl))) rfl
theorem wd_337 : (Cond.fieldLink "WasmMergeModel" 181 "WasmMergeModel$Unit" "mImport" "I") ∈ tb := tb_mem (List.mem_append_right _ (tm_9 (List.mem_of_getElem? (i := 79) rfl))) rfl
theorem wd_338 : (Cond.code ⟨"WasmMergeModel", "one", "()I"⟩ prog_14_method_3_code 1 (some .int)) ∈ tb := tb_mem (List.mem_append_right _ (tm_10 (List.mem_of_getElem? (i := 181) rfl))) rfl
theorem wd_339 : (Cond.instanceMethod ⟨"WasmMergeModel", "one", "()I"⟩) ∈ tb := tb_mem (List.mem_append_right _ (tm_10 (List.mem_of_getElem? (i := 180) rfl))) rfl
theorem wd_340 : (Cond.methodLink "WasmMergeModel" 103 ⟨"WasmMergeModel", "one", "()I"⟩) ∈ tb := tb_mem (List.mem_append_right _ (tm_10 (List.mem_of_getElem? (i := 178) rfl))) rfl
theorem wd_341 : (Cond.selects "WasmMergeModel" ⟨"WasmMergeModel", "one", "()I"⟩ ⟨"WasmMergeModel", "one", "()I"⟩) ∈ tb := tb_mem (List.mem_append_left _ (List.mem_map.mpr ⟨_, List.mem_of_getElem? (l := lw_privs) (i := 6) rfl, rfl⟩)) rfl
theorem wd_342 : (Cond.fieldLink "WasmMergeModel" 100 "WasmMergeModel$Unit" "b" "[B") ∈ tb := tb_mem (List.mem_append_right _ (tm_9 (List.mem_of_getElem? (i := 29) rfl))) rfl
theorem wd_343 : (Cond.methodLink "WasmMergeModel" 510 ⟨"java/lang/System", "arraycopy", "(Ljava/lang/Object;ILjava/lang/Object;II)V"⟩) ∈ tb := tb_mem (List.mem_append_right _ (tm_10 (List.mem_of_getElem? (i := 169) rfl))) rfl
theorem wd_344 : (Cond.code ⟨"WasmMergeModel", "read", "(LWasmMergeModel$Unit;)V"⟩ prog_14_method_11_code 12 none) ∈ tb := tb_mem (List.mem_append_right _ (tm_10 (List.mem_of_getElem? (i := 177) rfl))) rfl
theorem wd_345 : (Cond.instanceMethod ⟨"WasmMergeModel", "read", "(LWasmMergeModel$Unit;)V"⟩) ∈ tb := tb_mem (List.mem_append_right _ (tm_10 (List.mem_of_getElem? (i := 176) rfl))) rfl
theorem wd_346 : (Cond.methodLink "WasmMergeModel" 631 ⟨"WasmMergeModel", "read", "(LWasmMergeModel$Unit;)V"⟩) ∈ tb := tb_mem (List.mem_append_right _ (tm_10 (List.mem_of_getElem? (i := 174) rfl))) rfl
theorem wd_347 : (Cond.selects "WasmMergeModel" ⟨"WasmMergeModel", "read", "(LWasmMergeModel$Unit;)V"⟩ ⟨"WasmMergeModel", "read", "(LWasmMergeModel$Unit;)V"⟩) ∈ tb := tb_mem (List.mem_append_left _ (List.mem_map.mpr ⟨_, List.mem_of_getElem? (l := lw_privs) (i := 7) rfl, rfl⟩)) rfl
theorem wd_348 : (Cond.fieldLink "WasmMergeModel" 641 "WasmMergeModel$Stop" "why" "I") ∈ tb := tb_mem (List.mem_append_right _ (tm_10 (List.mem_of_getElem? (i := 203) rfl))) rfl
theorem wd_349 : (Cond.code ⟨"WasmMerge", "feed", "(IIIII)I"⟩ prog_1_method_2_code 6 (some .int)) ∈ tb := tb_mem (List.mem_append_right _ (tm_3 (List.mem_of_getElem? (i := 194) rfl))) rfl
theorem wd_350 : (Cond.instanceMethod ⟨"WasmMerge", "feed", "(IIIII)I"⟩) ∈ tb := tb_mem (List.mem_append_right _ (tm_3 (List.mem_of_getElem? (i := 192) rfl))) rfl
theorem wd_351 : (Cond.methodLink "WasmMergeLaw" 7 ⟨"WasmMerge", "feed", "(IIIII)I"⟩) ∈ tb := tb_mem (List.mem_append_right _ (tm_3 (List.mem_of_getElem? (i := 191) rfl))) rfl
theorem wd_352 : (Cond.selects "WasmMerge" ⟨"WasmMerge", "feed", "(IIIII)I"⟩ ⟨"WasmMerge", "feed", "(IIIII)I"⟩) ∈ tb := tb_mem (List.mem_append_right _ (tm_3 (List.mem_of_getElem? (i := 193) rfl))) rfl
theorem wd_353 : (Cond.code ⟨"WasmMerge", "end", "(I)I"⟩ prog_1_method_4_code 2 (some .int)) ∈ tb := tb_mem (List.mem_append_right _ (tm_4 (List.mem_of_getElem? (i := 37) rfl))) rfl
theorem wd_354 : (Cond.instanceMethod ⟨"WasmMerge", "end", "(I)I"⟩) ∈ tb := tb_mem (List.mem_append_right _ (tm_4 (List.mem_of_getElem? (i := 35) rfl))) rfl
theorem wd_355 : (Cond.methodLink "WasmMergeLaw" 15 ⟨"WasmMerge", "end", "(I)I"⟩) ∈ tb := tb_mem (List.mem_append_right _ (tm_4 (List.mem_of_getElem? (i := 34) rfl))) rfl
theorem wd_356 : (Cond.selects "WasmMerge" ⟨"WasmMerge", "end", "(I)I"⟩ ⟨"WasmMerge", "end", "(I)I"⟩) ∈ tb := tb_mem (List.mem_append_right _ (tm_4 (List.mem_of_getElem? (i := 36) rfl))) rfl
theorem wd_357 : (Cond.classLink "WasmMergeLaw" 19 "java/lang/IllegalArgumentException") ∈ tb := tb_mem (List.mem_append_right _ (tm_4 (List.mem_of_getElem? (i := 33) rfl))) rfl
theorem wd_358 : (Cond.code ⟨"WasmMerge", "add", "()I"⟩ prog_1_method_5_code 3 (some .int)) ∈ tb := tb_mem (List.mem_append_right _ (tm_4 (List.mem_of_getElem? (i := 61) rfl))) rfl
theorem wd_359 : (Cond.instanceMethod ⟨"WasmMerge", "add", "()I"⟩) ∈ tb := tb_mem (List.mem_append_right _ (tm_4 (List.mem_of_getElem? (i := 59) rfl))) rfl
theorem wd_360 : (Cond.methodLink "WasmMergeLaw" 21 ⟨"WasmMerge", "add", "()I"⟩) ∈ tb := tb_mem (List.mem_append_right _ (tm_4 (List.mem_of_getElem? (i := 58) rfl))) rfl
theorem wd_361 : (Cond.selects "WasmMerge" ⟨"WasmMerge", "add", "()I"⟩ ⟨"WasmMerge", "add", "()I"⟩) ∈ tb := tb_mem (List.mem_append_right _ (tm_4 (List.mem_of_getElem? (i := 60) rfl))) rfl
theorem wd_362 : (Cond.classLink "WasmMergeLaw" 13 "java/lang/IllegalStateException") ∈ tb := tb_mem (List.mem_append_right _ (tm_3 (List.mem_of_getElem? (i := 190) rfl))) rfl
theorem wd_363 : (Cond.classLink "WasmMergeLaw" 25 "java/lang/UnsupportedOperationException") ∈ tb := tb_mem (List.mem_append_right _ (tm_4 (List.mem_of_getElem? (i := 57) rfl))) rfl
theorem wd_364 : (Cond.code ⟨"WasmMerge", "merge", "()I"⟩ prog_1_method_7_code 1 (some .int)) ∈ tb := tb_mem (List.mem_append_right _ (tm_6 (List.mem_of_getElem? (i := 33) rfl))) rfl
theorem wd_365 : (Cond.instanceMethod ⟨"WasmMerge", "merge", "()I"⟩) ∈ tb := tb_mem (List.mem_append_right _ (tm_6 (List.mem_of_getElem? (i := 31) rfl))) rfl
theorem wd_366 : (Cond.methodLink "WasmMergeLaw" 27 ⟨"WasmMerge", "merge", "()I"⟩) ∈ tb := tb_mem (List.mem_append_right _ (tm_6 (List.mem_of_getElem? (i := 30) rfl))) rfl
theorem wd_367 : (Cond.selects "WasmMerge" ⟨"WasmMerge", "merge", "()I"⟩ ⟨"WasmMerge", "merge", "()I"⟩) ∈ tb := tb_mem (List.mem_append_right _ (tm_6 (List.mem_of_getElem? (i := 32) rfl))) rfl
theorem wd_368 : (Cond.code ⟨"WasmMerge", "begin", "()I"⟩ prog_1_method_9_code 1 (some .int)) ∈ tb := tb_mem (List.mem_append_right _ (tm_6 (List.mem_of_getElem? (i := 121) rfl))) rfl
theorem wd_369 : (Cond.instanceMethod ⟨"WasmMerge", "begin", "()I"⟩) ∈ tb := tb_mem (List.mem_append_right _ (tm_6 (List.mem_of_getElem? (i := 119) rfl))) rfl
theorem wd_370 : (Cond.methodLink "WasmMergeLaw" 30 ⟨"WasmMerge", "begin", "()I"⟩) ∈ tb := tb_mem (List.mem_append_right _ (tm_6 (List.mem_of_getElem? (i := 118) rfl))) rfl
theorem wd_371 : (Cond.selects "WasmMerge" ⟨"WasmMerge", "begin", "()I"⟩ ⟨"WasmMerge", "begin", "()I"⟩) ∈ tb := tb_mem (List.mem_append_right _ (tm_6 (List.mem_of_getElem? (i := 120) rfl))) rfl
theorem wd_372 : (Cond.code ⟨"WasmMerge", "argument", "(J)I"⟩ prog_1_method_10_code 3 (some .int)) ∈ tb := tb_mem (List.mem_append_right _ (tm_8 (List.mem_of_getElem? (i := 167) rfl))) rfl
theorem wd_373 : (Cond.instanceMethod ⟨"WasmMerge", "argument", "(J)I"⟩) ∈ tb := tb_mem (List.mem_append_right _ (tm_8 (List.mem_of_getElem? (i := 165) rfl))) rfl
theorem wd_374 : (Cond.methodLink "WasmMergeLaw" 35 ⟨"WasmMerge", "argument", "(J)I"⟩) ∈ tb := tb_mem (List.mem_append_right _ (tm_8 (List.mem_of_getElem? (i := 164) rfl))) rfl
theorem wd_375 : (Cond.selects "WasmMerge" ⟨"WasmMerge", "argument", "(J)I"⟩ ⟨"WasmMerge", "argument", "(J)I"⟩) ∈ tb := tb_mem (List.mem_append_right _ (tm_8 (List.mem_of_getElem? (i := 166) rfl))) rfl
theorem wd_376 : (Cond.code ⟨"WasmMerge", "call", "(II)J"⟩ prog_1_method_11_code 7 (some .long)) ∈ tb := tb_mem (List.mem_append_right _ (tm_8 (List.mem_of_getElem? (i := 176) rfl))) rfl
theorem wd_377 : (Cond.instanceMethod ⟨"WasmMerge", "call", "(II)J"⟩) ∈ tb := tb_mem (List.mem_append_right _ (tm_8 (List.mem_of_getElem? (i := 174) rfl))) rfl
theorem wd_378 : (Cond.methodLink "WasmMergeLaw" 39 ⟨"WasmMerge", "call", "(II)J"⟩) ∈ tb := tb_mem (List.mem_append_right _ (tm_8 (List.mem_of_getElem? (i := 173) rfl))) rfl
theorem wd_379 : (Cond.selects "WasmMerge" ⟨"WasmMerge", "call", "(II)J"⟩ ⟨"WasmMerge", "call", "(II)J"⟩) ∈ tb := tb_mem (List.mem_append_right _ (tm_8 (List.mem_of_getElem? (i := 175) rfl))) rfl
theorem wd_380 : (Cond.code ⟨"WasmMerge", "memory", "(I)I"⟩ prog_1_method_16_code 2 (some .int)) ∈ tb := tb_mem (List.mem_append_right _ (tm_8 (List.mem_of_getElem? (i := 212) rfl))) rfl
theorem wd_381 : (Cond.instanceMethod ⟨"WasmMerge", "memory", "(I)I"⟩) ∈ tb := tb_mem (List.mem_append_right _ (tm_8 (List.mem_of_getElem? (i := 210) rfl))) rfl
theorem wd_382 : (Cond.methodLink "WasmMergeLaw" 45 ⟨"WasmMerge", "memory", "(I)I"⟩) ∈ tb := tb_mem (List.mem_append_right _ (tm_8 (List.mem_of_getElem? (i := 209) rfl))) rfl
theorem wd_383 : (Cond.selects "WasmMerge" ⟨"WasmMerge", "memory", "(I)I"⟩ ⟨"WasmMerge", "memory", "(I)I"⟩) ∈ tb := tb_mem (List.mem_append_right _ (tm_8 (List.mem_of_getElem? (i := 211) rfl))) rfl
theorem wd_384 : (Cond.code ⟨"WasmMerge", "global", "(II)J"⟩ prog_1_method_17_code 4 (some .long)) ∈ tb := tb_mem (List.mem_append_right _ (tm_8 (List.mem_of_getElem? (i := 223) rfl))) rfl
theorem wd_385 : (Cond.instanceMethod ⟨"WasmMerge", "global", "(II)J"⟩) ∈ tb := tb_mem (List.mem_append_right _ (tm_8 (List.mem_of_getElem? (i := 221) rfl))) rfl
theorem wd_386 : (Cond.methodLink "WasmMergeLaw" 48 ⟨"WasmMerge", "global", "(II)J"⟩) ∈ tb := tb_mem (List.mem_append_right _ (tm_8 (List.mem_of_getElem? (i := 220) rfl))) rfl
theorem wd_387 : (Cond.selects "WasmMerge" ⟨"WasmMerge", "global", "(II)J"⟩ ⟨"WasmMerge", "global", "(II)J"⟩) ∈ tb := tb_mem (List.mem_append_right _ (tm_8 (List.mem_of_getElem? (i := 222) rfl))) rfl
theorem wd_388 : (Cond.code ⟨"WasmMerge", "told", "(II)I"⟩ prog_1_method_18_code 4 (some .int)) ∈ tb := tb_mem (List.mem_append_right _ (tm_8 (List.mem_of_getElem? (i := 233) rfl))) rfl
theorem wd_389 : (Cond.instanceMethod ⟨"WasmMerge", "told", "(II)I"⟩) ∈ tb := tb_mem (List.mem_append_right _ (tm_8 (List.mem_of_getElem? (i := 231) rfl))) rfl
theorem wd_390 : (Cond.methodLink "WasmMergeLaw" 51 ⟨"WasmMerge", "told", "(II)I"⟩) ∈ tb := tb_mem (List.mem_append_right _ (tm_8 (List.mem_of_getElem? (i := 230) rfl))) rfl
theorem wd_391 : (Cond.selects "WasmMerge" ⟨"WasmMerge", "told", "(II)I"⟩ ⟨"WasmMerge", "told", "(II)I"⟩) ∈ tb := tb_mem (List.mem_append_right _ (tm_8 (List.mem_of_getElem? (i := 232) rfl))) rfl
theorem wd_392 : (Cond.classLink "WasmMergeLaw" 43 "java/lang/IndexOutOfBoundsException") ∈ tb := tb_mem (List.mem_append_right _ (tm_8 (List.mem_of_getElem? (i := 172) rfl))) rfl
theorem wd_393 : (Cond.code ⟨"WasmMerge", "count", "(I)I"⟩ prog_1_method_19_code 2 (some .int)) ∈ tb := tb_mem (List.mem_append_right _ (tm_9 (List.mem_of_getElem? (i := 6) rfl))) rfl
theorem wd_394 : (Cond.instanceMethod ⟨"WasmMerge", "count", "(I)I"⟩) ∈ tb := tb_mem (List.mem_append_right _ (tm_9 (List.mem_of_getElem? (i := 4) rfl))) rfl
theorem wd_395 : (Cond.methodLink "WasmMergeLaw" 55 ⟨"WasmMerge", "count", "(I)I"⟩) ∈ tb := tb_mem (List.mem_append_right _ (tm_9 (List.mem_of_getElem? (i := 3) rfl))) rfl
theorem wd_396 : (Cond.selects "WasmMerge" ⟨"WasmMerge", "count", "(I)I"⟩ ⟨"WasmMerge", "count", "(I)I"⟩) ∈ tb := tb_mem (List.mem_append_right _ (tm_9 (List.mem_of_getElem? (i := 5) rfl))) rfl
theorem wd_397 : (Cond.code ⟨"WasmMerge", "check", "()I"⟩ prog_1_method_20_code 1 (some .int)) ∈ tb := tb_mem (List.mem_append_right _ (tm_9 (List.mem_of_getElem? (i := 14) rfl))) rfl
theorem wd_398 : (Cond.instanceMethod ⟨"WasmMerge", "check", "()I"⟩) ∈ tb := tb_mem (List.mem_append_right _ (tm_9 (List.mem_of_getElem? (i := 12) rfl))) rfl
theorem wd_399 : (Cond.methodLink "WasmMergeLaw" 58 ⟨"WasmMerge", "check", "()I"⟩) ∈ tb := tb_mem (List.mem_append_right _ (tm_9 (List.mem_of_getElem? (i := 11) rfl))) rfl
theorem wd_400 : (Cond.selects "WasmMerge" ⟨"WasmMerge", "check", "()I"⟩ ⟨"WasmMerge", "check", "()I"⟩) ∈ tb := tb_mem (List.mem_append_right _ (tm_9 (List.mem_of_getElem? (i := 13) rfl))) rfl
theorem wd_401 : (Cond.classLink "WasmMergeLaw" 8 "WasmMerge") ∈ tb := tb_mem (List.mem_append_right _ (tm_1 (List.mem_of_getElem? (i := 37) rfl))) rfl
theorem wd_402 : (Cond.instantiable "WasmMerge" 13) ∈ tb := tb_mem (List.mem_append_right _ (tm_1 (List.mem_of_getElem? (i := 38) rfl))) rfl
theorem wd_403 : (Cond.code ⟨"WasmMerge", "<init>", "()V"⟩ prog_1_method_1_code 2 none) ∈ tb := tb_mem (List.mem_append_right _ (tm_1 (List.mem_of_getElem? (i := 41) rfl))) rfl
theorem wd_404 : (Cond.instanceMethod ⟨"WasmMerge", "<init>", "()V"⟩) ∈ tb := tb_mem (List.mem_append_right _ (tm_1 (List.mem_of_getElem? (i := 40) rfl))) rfl
theorem wd_405 : (Cond.methodLink "WasmMergeLaw" 61 ⟨"WasmMerge", "<init>", "()V"⟩) ∈ tb := tb_mem (List.mem_append_right _ (tm_1 (List.mem_of_getElem? (i := 39) rfl))) rfl
theorem wd_406 : (Cond.classLink "WasmMergeLaw" 62 "WasmMergeModel") ∈ tb := tb_mem (List.mem_append_right _ (tm_9 (List.mem_of_getElem? (i := 15) rfl))) rfl
theorem wd_407 : (Cond.instantiable "WasmMergeModel" 49) ∈ tb := tb_mem (List.mem_append_right _ (tm_9 (List.mem_of_getElem? (i := 16) rfl))) rfl
theorem wd_408 : (Cond.code ⟨"WasmMergeModel", "<init>", "()V"⟩ prog_14_method_1_code 1 none) ∈ tb := tb_mem (List.mem_append_right _ (tm_9 (List.mem_of_getElem? (i := 19) rfl))) rfl
theorem wd_409 : (Cond.instanceMethod ⟨"WasmMergeModel", "<init>", "()V"⟩) ∈ tb := tb_mem (List.mem_append_right _ (tm_9 (List.mem_of_getElem? (i := 18) rfl))) rfl
theorem wd_410 : (Cond.methodLink "WasmMergeLaw" 64 ⟨"WasmMergeModel", "<init>", "()V"⟩) ∈ tb := tb_mem (List.mem_append_right _ (tm_9 (List.mem_of_getElem? (i := 17) rfl))) rfl
theorem wd_411 : (Cond.codeWith ⟨"WasmMergeLaw", "feed", "(LWasmMerge;IIIII[J)I"⟩ method_3_code 8 (some .int) [(0, 16, 19, 13)]) ∈ tb := tb_mem (List.mem_append_right _ (tm_3 (List.mem_of_getElem? (i := 189) rfl))) rfl
theorem wd_412 : (Cond.initialized "WasmMergeLaw") ∈ tb := tb_mem (List.mem_append_right _ (tm_1 (List.mem_of_getElem? (i := 0) rfl))) rfl
theorem wd_413 : (Cond.methodLink "WasmMergeLaw" 65 ⟨"WasmMergeLaw", "feed", "(LWasmMerge;IIIII[J)I"⟩) ∈ tb := tb_mem (List.mem_append_right _ (tm_3 (List.mem_of_getElem? (i := 187) rfl))) rfl
theorem wd_414 : (Cond.static ⟨"WasmMergeLaw", "feed", "(LWasmMerge;IIIII[J)I"⟩) ∈ tb := tb_mem (List.mem_append_right _ (tm_3 (List.mem_of_getElem? (i := 188) rfl))) rfl
theorem wd_415 : (Cond.code ⟨"WasmMergeModel", "feed", "(IIIII)I"⟩ prog_14_method_67_code 6 (some .int)) ∈ tb := tb_mem (List.mem_append_right _ (tm_10 (List.mem_of_getElem? (i := 155) rfl))) rfl
theorem wd_416 : (Cond.instanceMethod ⟨"WasmMergeModel", "feed", "(IIIII)I"⟩) ∈ tb := tb_mem (List.mem_append_right _ (tm_10 (List.mem_of_getElem? (i := 153) rfl))) rfl
theorem wd_417 : (Cond.methodLink "WasmMergeLaw" 70 ⟨"WasmMergeModel", "feed", "(IIIII)I"⟩) ∈ tb := tb_mem (List.mem_append_right _ (tm_10 (List.mem_of_getElem? (i := 152) rfl))) rfl
theorem wd_418 : (Cond.selects "WasmMergeModel" ⟨"WasmMergeModel", "feed", "(IIIII)I"⟩ ⟨"WasmMergeModel", "feed", "(IIIII)I"⟩) ∈ tb := tb_mem (List.mem_append_right _ (tm_10 (List.mem_of_getElem? (i := 154) rfl))) rfl
theorem wd_419 : (Cond.code ⟨"WasmMergeModel", "thrown", "()I"⟩ prog_14_method_2_code 1 (some .int)) ∈ tb := tb_mem (List.mem_append_right _ (tm_10 (List.mem_of_getElem? (i := 151) rfl))) rfl
theorem wd_420 : (Cond.instanceMethod ⟨"WasmMergeModel", "thrown", "()I"⟩) ∈ tb := tb_mem (List.mem_append_right _ (tm_10 (List.mem_of_getElem? (i := 149) rfl))) rfl
theorem wd_421 : (Cond.methodLink "WasmMergeLaw" 71 ⟨"WasmMergeModel", "thrown", "()I"⟩) ∈ tb := tb_mem (List.mem_append_right _ (tm_10 (List.mem_of_getElem? (i := 148) rfl))) rfl
theorem wd_422 : (Cond.selects "WasmMergeModel" ⟨"WasmMergeModel", "thrown", "()I"⟩ ⟨"WasmMergeModel", "thrown", "()I"⟩) ∈ tb := tb_mem (List.mem_append_right _ (tm_10 (List.mem_of_getElem? (i := 150) rfl))) rfl
theorem wd_423 : (Cond.codeWith ⟨"WasmMergeLaw", "end", "(LWasmMerge;I[J)I"⟩ method_4_code 4 (some .int) [(0, 9, 12, 19)]) ∈ tb := tb_mem (List.mem_append_right _ (tm_4 (List.mem_of_getElem? (i := 32) rfl))) rfl
theorem wd_424 : (Cond.methodLink "WasmMergeLaw" 74 ⟨"WasmMergeLaw", "end", "(LWasmMerge;I[J)I"⟩) ∈ tb := tb_mem (List.mem_append_right _ (tm_4 (List.mem_of_getElem? (i := 30) rfl))) rfl
theorem wd_425 : (Cond.static ⟨"WasmMergeLaw", "end", "(LWasmMerge;I[J)I"⟩) ∈ tb := tb_mem (List.mem_append_right _ (tm_4 (List.mem_of_getElem? (i := 31) rfl))) rfl
theorem wd_426 : (Cond.code ⟨"WasmMergeModel", "end", "(I)I"⟩ prog_14_method_69_code 2 (some .int)) ∈ tb := tb_mem (List.mem_append_right _ (tm_10 (List.mem_of_getElem? (i := 163) rfl))) rfl
theorem wd_427 : (Cond.instanceMethod ⟨"WasmMergeModel", "end", "(I)I"⟩) ∈ tb := tb_mem (List.mem_append_right _ (tm_10 (List.mem_of_getElem? (i := 161) rfl))) rfl
theorem wd_428 : (Cond.methodLink "WasmMergeLaw" 77 ⟨"WasmMergeModel", "end", "(I)I"⟩) ∈ tb := tb_mem (List.mem_append_right _ (tm_10 (List.mem_of_getElem? (i := 160) rfl))) rfl
theorem wd_429 : (Cond.selects "WasmMergeModel" ⟨"WasmMergeModel", "end", "(I)I"⟩ ⟨"WasmMergeModel", "end", "(I)I"⟩) ∈ tb := tb_mem (List.mem_append_right _ (tm_10 (List.mem_of_getElem? (i := 162) rfl))) rfl
theorem wd_430 : (Cond.codeWith ⟨"WasmMergeLaw", "add", "(LWasmMerge;[J)I"⟩ method_5_code 3 (some .int) [(0, 8, 11, 13), (0, 8, 14, 25)]) ∈ tb := tb_mem (List.mem_append_right _ (tm_4 (List.mem_of_getElem? (i := 56) rfl))) rfl
theorem wd_431 : (Cond.methodLink "WasmMergeLaw" 78 ⟨"WasmMergeLaw", "add", "(LWasmMerge;[J)I"⟩) ∈ tb := tb_mem (List.mem_append_right _ (tm_4 (List.mem_of_getElem? (i := 54) rfl))) rfl
theorem wd_432 : (Cond.static ⟨"WasmMergeLaw", "add", "(LWasmMerge;[J)I"⟩) ∈ tb := tb_mem (List.mem_append_right _ (tm_4 (List.mem_of_getElem? (i := 55) rfl))) rfl
theorem wd_433 : (Cond.codeWith ⟨"WasmMergeModel", "add", "()I"⟩ prog_14_method_71_code 3 (some .int) [(76, 108, 111, 91)]) ∈ tb := tb_mem (List.mem_append_right _ (tm_10 (List.mem_of_getElem? (i := 167) rfl))) rfl
theorem wd_434 : (Cond.instanceMethod ⟨"WasmMergeModel", "add", "()I"⟩) ∈ tb := tb_mem (List.mem_append_right _ (tm_10 (List.mem_of_getElem? (i := 165) rfl))) rfl
theorem wd_435 : (Cond.methodLink "WasmMergeLaw" 81 ⟨"WasmMergeModel", "add", "()I"⟩) ∈ tb := tb_mem (List.mem_append_right _ (tm_10 (List.mem_of_getElem? (i := 164) rfl))) rfl
theorem wd_436 : (Cond.selects "WasmMergeModel" ⟨"WasmMergeModel", "add", "()I"⟩ ⟨"WasmMergeModel", "add", "()I"⟩) ∈ tb := tb_mem (List.mem_append_right _ (tm_10 (List.mem_of_getElem? (i := 166) rfl))) rfl
theorem wd_437 : (Cond.code ⟨"WasmMerge", "clear", "()I"⟩ prog_1_method_6_code 2 (some .int)) ∈ tb := tb_mem (List.mem_append_right _ (tm_3 (List.mem_of_getElem? (i := 166) rfl))) rfl
theorem wd_438 : (Cond.instanceMethod ⟨"WasmMerge", "clear", "()I"⟩) ∈ tb := tb_mem (List.mem_append_right _ (tm_3 (List.mem_of_getElem? (i := 164) rfl))) rfl
theorem wd_439 : (Cond.methodLink "WasmMergeLaw" 82 ⟨"WasmMerge", "clear", "()I"⟩) ∈ tb := tb_mem (List.mem_append_right _ (tm_3 (List.mem_of_getElem? (i := 163) rfl))) rfl
theorem wd_440 : (Cond.selects "WasmMerge" ⟨"WasmMerge", "clear", "()I"⟩ ⟨"WasmMerge", "clear", "()I"⟩) ∈ tb := tb_mem (List.mem_append_right _ (tm_3 (List.mem_of_getElem? (i := 165) rfl))) rfl
theorem wd_441 : (Cond.code ⟨"WasmMergeModel", "clear", "()I"⟩ prog_14_method_73_code 2 (some .int)) ∈ tb := tb_mem (List.mem_append_right _ (tm_11 (List.mem_of_getElem? (i := 127) rfl))) rfl
theorem wd_442 : (Cond.instanceMethod ⟨"WasmMergeModel", "clear", "()I"⟩) ∈ tb := tb_mem (List.mem_append_right _ (tm_11 (List.mem_of_getElem? (i := 125) rfl))) rfl
theorem wd_443 : (Cond.methodLink "WasmMergeLaw" 85 ⟨"WasmMergeModel", "clear", "()I"⟩) ∈ tb := tb_mem (List.mem_append_right _ (tm_11 (List.mem_of_getElem? (i := 124) rfl))) rfl
theorem wd_444 : (Cond.selects "WasmMergeModel" ⟨"WasmMergeModel", "clear", "()I"⟩ ⟨"WasmMergeModel", "clear", "()I"⟩) ∈ tb := tb_mem (List.mem_append_right _ (tm_11 (List.mem_of_getElem? (i := 126) rfl))) rfl
theorem wd_445 : (Cond.codeWith ⟨"WasmMergeLaw", "merge", "(LWasmMerge;[J)I"⟩ method_6_code 3 (some .int) [(0, 8, 11, 13), (0, 8, 14, 25)]) ∈ tb := tb_mem (List.mem_append_right _ (tm_6 (List.mem_of_getElem? (i := 29) rfl))) rfl
theorem wd_446 : (Cond.methodLink "WasmMergeLaw" 86 ⟨"WasmMergeLaw", "merge", "(LWasmMerge;[J)I"⟩) ∈ tb := tb_mem (List.mem_append_right _ (tm_6 (List.mem_of_getElem? (i := 27) rfl))) rfl
theorem wd_447 : (Cond.static ⟨"WasmMergeLaw", "merge", "(LWasmMerge;[J)I"⟩) ∈ tb := tb_mem (List.mem_append_right _ (tm_6 (List.mem_of_getElem? (i := 28) rfl))) rfl
theorem wd_448 : (Cond.codeWith ⟨"WasmMergeModel", "merge", "()I"⟩ prog_14_method_76_code 3 (some .int) [(34, 105, 108, 91)]) ∈ tb := tb_mem (List.mem_append_right _ (tm_11 (List.mem_of_getElem? (i := 131) rfl))) rfl
theorem wd_449 : (Cond.instanceMethod ⟨"WasmMergeModel", "merge", "()I"⟩) ∈ tb := tb_mem (List.mem_append_right _ (tm_11 (List.mem_of_getElem? (i := 129) rfl))) rfl
theorem wd_450 : (Cond.methodLink "WasmMergeLaw" 88 ⟨"WasmMergeModel", "merge", "()I"⟩) ∈ tb := tb_mem (List.mem_append_right _ (tm_11 (List.mem_of_getElem? (i := 128) rfl))) rfl
theorem wd_451 : (Cond.selects "WasmMergeModel" ⟨"WasmMergeModel", "merge", "()I"⟩ ⟨"WasmMergeModel", "merge", "()I"⟩) ∈ tb := tb_mem (List.mem_append_right _ (tm_11 (List.mem_of_getElem? (i := 130) rfl))) rfl
theorem wd_452 : (Cond.codeWith ⟨"WasmMergeLaw", "begin", "(LWasmMerge;[J)I"⟩ method_7_code 3 (some .int) [(0, 8, 11, 13), (0, 8, 14, 33)]) ∈ tb := tb_mem (List.mem_append_right _ (tm_6 (List.mem_of_getElem? (i := 116) rfl))) rfl
theorem wd_453 : (Cond.methodLink "WasmMergeLaw" 89 ⟨"WasmMergeLaw", "begin", "(LWasmMerge;[J)I"⟩) ∈ tb := tb_mem (List.mem_append_right _ (tm_6 (List.mem_of_getElem? (i := 114) rfl))) rfl
theorem wd_454 : (Cond.static ⟨"WasmMergeLaw", "begin", "(LWasmMerge;[J)I"⟩) ∈ tb := tb_mem (List.mem_append_right _ (tm_6 (List.mem_of_getElem? (i := 115) rfl))) rfl
theorem wd_455 : (Cond.codeWith ⟨"WasmMergeModel", "begin", "()I"⟩ prog_14_method_77_code 2 (some .int) [(45, 49, 52, 91)]) ∈ tb := tb_mem (List.mem_append_right _ (tm_11 (List.mem_of_getElem? (i := 164) rfl))) rfl
theorem wd_456 : (Cond.instanceMethod ⟨"WasmMergeModel", "begin", "()I"⟩) ∈ tb := tb_mem (List.mem_append_right _ (tm_11 (List.mem_of_getElem? (i := 162) rfl))) rfl
theorem wd_457 : (Cond.methodLink "WasmMergeLaw" 91 ⟨"WasmMergeModel", "begin", "()I"⟩) ∈ tb := tb_mem (List.mem_append_right _ (tm_11 (List.mem_of_getElem? (i := 161) rfl))) rfl
theorem wd_458 : (Cond.selects "WasmMergeModel" ⟨"WasmMergeModel", "begin", "()I"⟩ ⟨"WasmMergeModel", "begin", "()I"⟩) ∈ tb := tb_mem (List.mem_append_right _ (tm_11 (List.mem_of_getElem? (i := 163) rfl))) rfl
theorem wd_459 : (Cond.constantLong "WasmMergeLaw" 92 (4294967295)) ∈ tb := tb_mem (List.mem_append_right _ (tm_12 (List.mem_of_getElem? (i := 92) rfl))) rfl
theorem wd_460 : (Cond.codeWith ⟨"WasmMergeLaw", "argument", "(LWasmMerge;J[J)I"⟩ method_8_code 5 (some .int) [(0, 9, 12, 13)]) ∈ tb := tb_mem (List.mem_append_right _ (tm_8 (List.mem_of_getElem? (i := 163) rfl))) rfl
theorem wd_461 : (Cond.methodLink "WasmMergeLaw" 94 ⟨"WasmMergeLaw", "argument", "(LWasmMerge;J[J)I"⟩) ∈ tb := tb_mem (List.mem_append_right _ (tm_8 (List.mem_of_getElem? (i := 161) rfl))) rfl
theorem wd_462 : (Cond.static ⟨"WasmMergeLaw", "argument", "(LWasmMerge;J[J)I"⟩) ∈ tb := tb_mem (List.mem_append_right _ (tm_8 (List.mem_of_getElem? (i := 162) rfl))) rfl
theorem wd_463 : (Cond.code ⟨"WasmMergeModel", "argument", "(J)I"⟩ prog_14_method_78_code 3 (some .int)) ∈ tb := tb_mem (List.mem_append_right _ (tm_12 (List.mem_of_getElem? (i := 50) rfl))) rfl
theorem wd_464 : (Cond.instanceMethod ⟨"WasmMergeModel", "argument", "(J)I"⟩) ∈ tb := tb_mem (List.mem_append_right _ (tm_12 (List.mem_of_getElem? (i := 48) rfl))) rfl
theorem wd_465 : (Cond.methodLink "WasmMergeLaw" 97 ⟨"WasmMergeModel", "argument", "(J)I"⟩) ∈ tb := tb_mem (List.mem_append_right _ (tm_12 (List.mem_of_getElem? (i := 47) rfl))) rfl
theorem wd_466 : (Cond.selects "WasmMergeModel" ⟨"WasmMergeModel", "argument", "(J)I"⟩ ⟨"WasmMergeModel", "argument", "(J)I"⟩) ∈ tb := tb_mem (List.mem_append_right _ (tm_12 (List.mem_of_getElem? (i := 49) rfl))) rfl
theorem wd_467 : (Cond.codeWith ⟨"WasmMergeLaw", "call", "(LWasmMerge;II[J)I"⟩ method_9_code 5 (some .int) [(0, 9, 12, 13), (0, 9, 16, 43), (0, 9, 20, 19), (0, 9, 24, 33)]) ∈ tb := tb_mem (List.mem_append_right _ (tm_8 (List.mem_of_getElem? (i := 171) rfl))) rfl
theorem wd_468 : (Cond.methodLink "WasmMergeLaw" 98 ⟨"WasmMergeLaw", "call", "(LWasmMerge;II[J)I"⟩) ∈ tb := tb_mem (List.mem_append_right _ (tm_8 (List.mem_of_getElem? (i := 169) rfl))) rfl
theorem wd_469 : (Cond.static ⟨"WasmMergeLaw", "call", "(LWasmMerge;II[J)I"⟩) ∈ tb := tb_mem (List.mem_append_right _ (tm_8 (List.mem_of_getElem? (i := 170) rfl))) rfl
theorem wd_470 : (Cond.codeWith ⟨"WasmMergeModel", "call", "(II)J"⟩ prog_14_method_80_code 7 (some .long) [(168, 173, 176, 91)]) ∈ tb := tb_mem (List.mem_append_right _ (tm_12 (List.mem_of_getElem? (i := 54) rfl))) rfl
theorem wd_471 : (Cond.instanceMethod ⟨"WasmMergeModel", "call", "(II)J"⟩) ∈ tb := tb_mem (List.mem_append_right _ (tm_12 (List.mem_of_getElem? (i := 52) rfl))) rfl
theorem wd_472 : (Cond.methodLink "WasmMergeLaw" 101 ⟨"WasmMergeModel", "call", "(II)J"⟩) ∈ tb := tb_mem (List.mem_append_right _ (tm_12 (List.mem_of_getElem? (i := 51) rfl))) rfl
theorem wd_473 : (Cond.selects "WasmMergeModel" ⟨"WasmMergeModel", "call", "(II)J"⟩ ⟨"WasmMergeModel", "call", "(II)J"⟩) ∈ tb := tb_mem (List.mem_append_right _ (tm_12 (List.mem_of_getElem? (i := 53) rfl))) rfl
theorem wd_474 : (Cond.code ⟨"WasmMerge", "fault", "()I"⟩ prog_1_method_13_code 1 (some .int)) ∈ tb := tb_mem (List.mem_append_right _ (tm_3 (List.mem_of_getElem? (i := 174) rfl))) rfl
theorem wd_475 : (Cond.instanceMethod ⟨"WasmMerge", "fault", "()I"⟩) ∈ tb := tb_mem (List.mem_append_right _ (tm_3 (List.mem_of_getElem? (i := 172) rfl))) rfl
theorem wd_476 : (Cond.methodLink "WasmMergeLaw" 102 ⟨"WasmMerge", "fault", "()I"⟩) ∈ tb := tb_mem (List.mem_append_right _ (tm_3 (List.mem_of_getElem? (i := 171) rfl))) rfl
theorem wd_477 : (Cond.selects "WasmMerge" ⟨"WasmMerge", "fault", "()I"⟩ ⟨"WasmMerge", "fault", "()I"⟩) ∈ tb := tb_mem (List.mem_append_right _ (tm_3 (List.mem_of_getElem? (i := 173) rfl))) rfl
theorem wd_478 : (Cond.code ⟨"WasmMergeModel", "fault", "()I"⟩ prog_14_method_81_code 1 (some .int)) ∈ tb := tb_mem (List.mem_append_right _ (tm_12 (List.mem_of_getElem? (i := 62) rfl))) rfl
theorem wd_479 : (Cond.instanceMethod ⟨"WasmMergeModel", "fault", "()I"⟩) ∈ tb := tb_mem (List.mem_append_right _ (tm_12 (List.mem_of_getElem? (i := 60) rfl))) rfl
theorem wd_480 : (Cond.methodLink "WasmMergeLaw" 105 ⟨"WasmMergeModel", "fault", "()I"⟩) ∈ tb := tb_mem (List.mem_append_right _ (tm_12 (List.mem_of_getElem? (i := 59) rfl))) rfl
theorem wd_481 : (Cond.selects "WasmMergeModel" ⟨"WasmMergeModel", "fault", "()I"⟩ ⟨"WasmMergeModel", "fault", "()I"⟩) ∈ tb := tb_mem (List.mem_append_right _ (tm_12 (List.mem_of_getElem? (i := 61) rfl))) rfl
theorem wd_482 : (Cond.code ⟨"WasmMerge", "trap", "()I"⟩ prog_1_method_14_code 1 (some .int)) ∈ tb := tb_mem (List.mem_append_right _ (tm_3 (List.mem_of_getElem? (i := 178) rfl))) rfl
theorem wd_483 : (Cond.instanceMethod ⟨"WasmMerge", "trap", "()I"⟩) ∈ tb := tb_mem (List.mem_append_right _ (tm_3 (List.mem_of_getElem? (i := 176) rfl))) rfl
theorem wd_484 : (Cond.methodLink "WasmMergeLaw" 106 ⟨"WasmMerge", "trap", "()I"⟩) ∈ tb := tb_mem (List.mem_append_right _ (tm_3 (List.mem_of_getElem? (i := 175) rfl))) rfl
theorem wd_485 : (Cond.selects "WasmMerge" ⟨"WasmMerge", "trap", "()I"⟩ ⟨"WasmMerge", "trap", "()I"⟩) ∈ tb := tb_mem (List.mem_append_right _ (tm_3 (List.mem_of_getElem? (i := 177) rfl))) rfl
theorem wd_486 : (Cond.code ⟨"WasmMergeModel", "trap", "()I"⟩ prog_14_method_82_code 1 (some .int)) ∈ tb := tb_mem (List.mem_append_right _ (tm_12 (List.mem_of_getElem? (i := 66) rfl))) rfl
theorem wd_487 : (Cond.instanceMethod ⟨"WasmMergeModel", "trap", "()I"⟩) ∈ tb := tb_mem (List.mem_append_right _ (tm_12 (List.mem_of_getElem? (i := 64) rfl))) rfl
theorem wd_488 : (Cond.methodLink "WasmMergeLaw" 109 ⟨"WasmMergeModel", "trap", "()I"⟩) ∈ tb := tb_mem (List.mem_append_right _ (tm_12 (List.mem_of_getElem? (i := 63) rfl))) rfl
theorem wd_489 : (Cond.selects "WasmMergeModel" ⟨"WasmMergeModel", "trap", "()I"⟩ ⟨"WasmMergeModel", "trap", "()I"⟩) ∈ tb := tb_mem (List.mem_append_right _ (tm_12 (List.mem_of_getElem? (i := 65) rfl))) rfl
theorem wd_490 : (Cond.code ⟨"WasmMerge", "take", "()J"⟩ prog_1_method_15_code 1 (some .long)) ∈ tb := tb_mem (List.mem_append_right _ (tm_3 (List.mem_of_getElem? (i := 182) rfl))) rfl
theorem wd_491 : (Cond.instanceMethod ⟨"WasmMerge", "take", "()J"⟩) ∈ tb := tb_mem (List.mem_append_right _ (tm_3 (List.mem_of_getElem? (i := 180) rfl))) rfl
theorem wd_492 : (Cond.methodLink "WasmMergeLaw" 110 ⟨"WasmMerge", "take", "()J"⟩) ∈ tb := tb_mem (List.mem_append_right _ (tm_3 (List.mem_of_getElem? (i := 179) rfl))) rfl
theorem wd_493 : (Cond.selects "WasmMerge" ⟨"WasmMerge", "take", "()J"⟩ ⟨"WasmMerge", "take", "()J"⟩) ∈ tb := tb_mem (List.mem_append_right _ (tm_3 (List.mem_of_getElem? (i := 181) rfl))) rfl
theorem wd_494 : (Cond.code ⟨"WasmMergeModel", "take", "()J"⟩ prog_14_method_83_code 3 (some .long)) ∈ tb := tb_mem (List.mem_append_right _ (tm_12 (List.mem_of_getElem? (i := 70) rfl))) rfl
theorem wd_495 : (Cond.instanceMethod ⟨"WasmMergeModel", "take", "()J"⟩) ∈ tb := tb_mem (List.mem_append_right _ (tm_12 (List.mem_of_getElem? (i := 68) rfl))) rfl
theorem wd_496 : (Cond.methodLink "WasmMergeLaw" 114 ⟨"WasmMergeModel", "take", "()J"⟩) ∈ tb := tb_mem (List.mem_append_right _ (tm_12 (List.mem_of_getElem? (i := 67) rfl))) rfl
theorem wd_497 : (Cond.selects "WasmMergeModel" ⟨"WasmMergeModel", "take", "()J"⟩ ⟨"WasmMergeModel", "take", "()J"⟩) ∈ tb := tb_mem (List.mem_append_right _ (tm_12 (List.mem_of_getElem? (i := 69) rfl))) rfl
theorem wd_498 : (Cond.codeWith ⟨"WasmMergeLaw", "memory", "(LWasmMerge;I[J)I"⟩ method_10_code 4 (some .int) [(0, 9, 12, 13)]) ∈ tb := tb_mem (List.mem_append_right _ (tm_8 (List.mem_of_getElem? (i := 208) rfl))) rfl
theorem wd_499 : (Cond.methodLink "WasmMergeLaw" 115 ⟨"WasmMergeLaw", "memory", "(LWasmMerge;I[J)I"⟩) ∈ tb := tb_mem (List.mem_append_right _ (tm_8 (List.mem_of_getElem? (i := 206) rfl))) rfl
theorem wd_500 : (Cond.static ⟨"WasmMergeLaw", "memory", "(LWasmMerge;I[J)I"⟩) ∈ tb := tb_mem (List.mem_append_right _ (tm_8 (List.mem_of_getElem? (i := 207) rfl))) rfl
theorem wd_501 : (Cond.code ⟨"WasmMergeModel", "memory", "(I)I"⟩ prog_14_method_84_code 2 (some .int)) ∈ tb := tb_mem (List.mem_append_right _ (tm_12 (List.mem_of_getElem? (i := 74) rfl))) rfl
theorem wd_502 : (Cond.instanceMethod ⟨"WasmMergeModel", "memory", "(I)I"⟩) ∈ tb := tb_mem (List.mem_append_right _ (tm_12 (List.mem_of_getElem? (i := 72) rfl))) rfl
theorem wd_503 : (Cond.methodLink "WasmMergeLaw" 117 ⟨"WasmMergeModel", "memory", "(I)I"⟩) ∈ tb := tb_mem (List.mem_append_right _ (tm_12 (List.mem_of_getElem? (i := 71) rfl))) rfl
theorem wd_504 : (Cond.selects "WasmMergeModel" ⟨"WasmMergeModel", "memory", "(I)I"⟩ ⟨"WasmMergeModel", "memory", "(I)I"⟩) ∈ tb := tb_mem (List.mem_append_right _ (tm_12 (List.mem_of_getElem? (i := 73) rfl))) rfl
theorem wd_505 : (Cond.codeWith ⟨"WasmMergeLaw", "global", "(LWasmMerge;II[J)I"⟩ method_11_code 5 (some .int) [(0, 9, 12, 13), (0, 9, 16, 43), (0, 9, 20, 19)]) ∈ tb := tb_mem (List.mem_append_right _ (tm_8 (List.mem_of_getElem? (i := 219) rfl))) rfl
theorem wd_506 : (Cond.methodLink "WasmMergeLaw" 118 ⟨"WasmMergeLaw", "global", "(LWasmMerge;II[J)I"⟩) ∈ tb := tb_mem (List.mem_append_right _ (tm_8 (List.mem_of_getElem? (i := 217) rfl))) rfl
theorem wd_507 : (Cond.static ⟨"WasmMergeLaw", "global", "(LWasmMerge;II[J)I"⟩) ∈ tb := tb_mem (List.mem_append_right _ (tm_8 (List.mem_of_getElem? (i := 218) rfl))) rfl
theorem wd_508 : (Cond.code ⟨"WasmMergeModel", "global", "(II)J"⟩ prog_14_method_85_code 3 (some .long)) ∈ tb := tb_mem (List.mem_append_right _ (tm_12 (List.mem_of_getElem? (i := 79) rfl))) rfl
theorem wd_509 : (Cond.instanceMethod ⟨"WasmMergeModel", "global", "(II)J"⟩) ∈ tb := tb_mem (List.mem_append_right _ (tm_12 (List.mem_of_getElem? (i := 77) rfl))) rfl
theorem wd_510 : (Cond.methodLink "WasmMergeLaw" 120 ⟨"WasmMergeModel", "global", "(II)J"⟩) ∈ tb := tb_mem (List.mem_append_right _ (tm_12 (List.mem_of_getElem? (i := 76) rfl))) rfl
theorem wd_511 : (Cond.selects "WasmMergeModel" ⟨"WasmMergeModel", "global", "(II)J"⟩ ⟨"WasmMergeModel", "global", "(II)J"⟩) ∈ tb := tb_mem (List.mem_append_right _ (tm_12 (List.mem_of_getElem? (i := 78) rfl))) rfl
theorem wd_512 : (Cond.codeWith ⟨"WasmMergeLaw", "told", "(LWasmMerge;II[J)I"⟩ method_12_code 5 (some .int) [(0, 10, 13, 43), (0, 10, 17, 19)]) ∈ tb := tb_mem (List.mem_append_right _ (tm_8 (List.mem_of_getElem? (i := 229) rfl))) rfl
theorem wd_513 : (Cond.methodLink "WasmMergeLaw" 121 ⟨"WasmMergeLaw", "told", "(LWasmMerge;II[J)I"⟩) ∈ tb := tb_mem (List.mem_append_right _ (tm_8 (List.mem_of_getElem? (i := 227) rfl))) rfl
theorem wd_514 : (Cond.static ⟨"WasmMergeLaw", "told", "(LWasmMerge;II[J)I"⟩) ∈ tb := tb_mem (List.mem_append_right _ (tm_8 (List.mem_of_getElem? (i := 228) rfl))) rfl
theorem wd_515 : (Cond.code ⟨"WasmMergeModel", "told", "(II)I"⟩ prog_14_method_86_code 4 (some .int)) ∈ tb := tb_mem (List.mem_append_right _ (tm_12 (List.mem_of_getElem? (i := 83) rfl))) rfl
theorem wd_516 : (Cond.instanceMethod ⟨"WasmMergeModel", "told", "(II)I"⟩) ∈ tb := tb_mem (List.mem_append_right _ (tm_12 (List.mem_of_getElem? (i := 81) rfl))) rfl
theorem wd_517 : (Cond.methodLink "WasmMergeLaw" 123 ⟨"WasmMergeModel", "told", "(II)I"⟩) ∈ tb := tb_mem (List.mem_append_right _ (tm_12 (List.mem_of_getElem? (i := 80) rfl))) rfl
theorem wd_518 : (Cond.selects "WasmMergeModel" ⟨"WasmMergeModel", "told", "(II)I"⟩ ⟨"WasmMergeModel", "told", "(II)I"⟩) ∈ tb := tb_mem (List.mem_append_right _ (tm_12 (List.mem_of_getElem? (i := 82) rfl))) rfl
theorem wd_519 : (Cond.codeWith ⟨"WasmMergeLaw", "count", "(LWasmMerge;I[J)I"⟩ method_13_code 4 (some .int) [(0, 9, 12, 13), (0, 9, 15, 19)]) ∈ tb := tb_mem (List.mem_append_right _ (tm_9 (List.mem_of_getElem? (i := 2) rfl))) rfl
theorem wd_520 : (Cond.methodLink "WasmMergeLaw" 124 ⟨"WasmMergeLaw", "count", "(LWasmMerge;I[J)I"⟩) ∈ tb := tb_mem (List.mem_append_right _ (tm_9 (List.mem_of_getElem? (i := 0) rfl))) rfl
theorem wd_521 : (Cond.static ⟨"WasmMergeLaw", "count", "(LWasmMerge;I[J)I"⟩) ∈ tb := tb_mem (List.mem_append_right _ (tm_9 (List.mem_of_getElem? (i := 1) rfl))) rfl
theorem wd_522 : (Cond.code ⟨"WasmMergeModel", "count", "(I)I"⟩ prog_14_method_87_code 4 (some .int)) ∈ tb := tb_mem (List.mem_append_right _ (tm_12 (List.mem_of_getElem? (i := 87) rfl))) rfl
theorem wd_523 : (Cond.instanceMethod ⟨"WasmMergeModel", "count", "(I)I"⟩) ∈ tb := tb_mem (List.mem_append_right _ (tm_12 (List.mem_of_getElem? (i := 85) rfl))) rfl
theorem wd_524 : (Cond.methodLink "WasmMergeLaw" 126 ⟨"WasmMergeModel", "count", "(I)I"⟩) ∈ tb := tb_mem (List.mem_append_right _ (tm_12 (List.mem_of_getElem? (i := 84) rfl))) rfl
theorem wd_525 : (Cond.selects "WasmMergeModel" ⟨"WasmMergeModel", "count", "(I)I"⟩ ⟨"WasmMergeModel", "count", "(I)I"⟩) ∈ tb := tb_mem (List.mem_append_right _ (tm_12 (List.mem_of_getElem? (i := 86) rfl))) rfl
theorem wd_526 : (Cond.codeWith ⟨"WasmMergeLaw", "check", "(LWasmMerge;[J)I"⟩ method_14_code 3 (some .int) [(0, 8, 11, 13)]) ∈ tb := tb_mem (List.mem_append_right _ (tm_9 (List.mem_of_getElem? (i := 10) rfl))) rfl
theorem wd_527 : (Cond.methodLink "WasmMergeLaw" 127 ⟨"WasmMergeLaw", "check", "(LWasmMerge;[J)I"⟩) ∈ tb := tb_mem (List.mem_append_right _ (tm_9 (List.mem_of_getElem? (i := 8) rfl))) rfl
theorem wd_528 : (Cond.static ⟨"WasmMergeLaw", "check", "(LWasmMerge;[J)I"⟩) ∈ tb := tb_mem (List.mem_append_right _ (tm_9 (List.mem_of_getElem? (i := 9) rfl))) rfl
theorem wd_529 : (Cond.code ⟨"WasmMergeModel", "check", "()I"⟩ prog_14_method_88_code 1 (some .int)) ∈ tb := tb_mem (List.mem_append_right _ (tm_12 (List.mem_of_getElem? (i := 91) rfl))) rfl
theorem wd_530 : (Cond.instanceMethod ⟨"WasmMergeModel", "check", "()I"⟩) ∈ tb := tb_mem (List.mem_append_right _ (tm_12 (List.mem_of_getElem? (i := 89) rfl))) rfl
theorem wd_531 : (Cond.methodLink "WasmMergeLaw" 129 ⟨"WasmMergeModel", "check", "()I"⟩) ∈ tb := tb_mem (List.mem_append_right _ (tm_12 (List.mem_of_getElem? (i := 88) rfl))) rfl
theorem wd_532 : (Cond.selects "WasmMergeModel" ⟨"WasmMergeModel", "check", "()I"⟩ ⟨"WasmMergeModel", "check", "()I"⟩) ∈ tb := tb_mem (List.mem_append_right _ (tm_12 (List.mem_of_getElem? (i := 90) rfl))) rfl
def nx_words : List Cond := [.methodLinkNest "WasmMerge$Module" 46 ⟨"WasmMerge$Port", "<init>", "()V"⟩ "WasmMerge", .methodLinkNest "WasmMerge$Module" 58 ⟨"WasmMerge$Function", "<init>", "()V"⟩ "WasmMerge", .methodLinkNest "WasmMerge$Module" 59 ⟨"WasmMerge$Part", "<init>", "()V"⟩ "WasmMerge", .methodLinkNest "WasmMerge$Parser" 11 ⟨"WasmMerge$Reader", "<init>", "()V"⟩ "WasmMerge", .methodLinkNest "WasmMerge$Parser" 24 ⟨"WasmMerge$Port", "<init>", "()V"⟩ "WasmMerge", .methodLinkNest "WasmMerge$Parser" 31 ⟨"WasmMerge$Function", "<init>", "()V"⟩ "WasmMerge", .methodLinkNest "WasmMerge$Parser" 38 ⟨"WasmMerge$Part", "<init>", "()V"⟩ "WasmMerge", .methodLinkNest "WasmMerge$Validator" 11 ⟨"WasmMerge$Reader", "<init>", "()V"⟩ "WasmMerge", .methodLinkNest "WasmMerge$Validator" 38 ⟨"WasmMerge$Block", "<init>", "()V"⟩ "WasmMerge", .methodLinkNest "WasmMerge$Machine" 13 ⟨"WasmMerge$Reader", "<init>", "()V"⟩ "WasmMerge", .methodLinkNest "WasmMergeModel" 15 ⟨"WasmMergeModel$Unit", "<init>", "()V"⟩ "WasmMergeModel", .castable "WasmMergeModel$Stop" "WasmMergeModel$Stop", .castable "java/lang/IllegalArgumentException" "java/lang/IllegalArgumentException", .castable "java/lang/UnsupportedOperationException" "java/lang/UnsupportedOperationException", .castable "java/lang/IllegalStateException" "java/lang/IllegalStateException", .castable "java/lang/IndexOutOfBoundsException" "java/lang/IndexOutOfBoundsException", .castable "java/lang/ArithmeticException" "java/lang/ArithmeticException", .declares ⟨"java/lang/RuntimeException", "<init>", "(Ljava/lang/String;)V"⟩, .declares ⟨"java/lang/Exception", "<init>", "(Ljava/lang/String;)V"⟩, .declares ⟨"java/lang/Throwable", "<init>", "(Ljava/lang/String;)V"⟩]
theorem nx_0 : (Cond.methodLinkNest "WasmMerge$Module" 46 ⟨"WasmMerge$Port", "<init>", "()V"⟩ "WasmMerge") ∈ nx_words := List.mem_of_getElem? (i := 0) rfl
theorem nx_1 : (Cond.methodLinkNest "WasmMerge$Module" 58 ⟨"WasmMerge$Function", "<init>", "()V"⟩ "WasmMerge") ∈ nx_words := List.mem_of_getElem? (i := 1) rfl
theorem nx_2 : (Cond.methodLinkNest "WasmMerge$Module" 59 ⟨"WasmMerge$Part", "<init>", "()V"⟩ "WasmMerge") ∈ nx_words := List.mem_of_getElem? (i := 2) rfl
theorem nx_3 : (Cond.methodLinkNest "WasmMerge$Parser" 11 ⟨"WasmMerge$Reader", "<init>", "()V"⟩ "WasmMerge") ∈ nx_words := List.mem_of_getElem? (i := 3) rfl
theorem nx_4 : (Cond.methodLinkNest "WasmMerge$Parser" 24 ⟨"WasmMerge$Port", "<init>", "()V"⟩ "WasmMerge") ∈ nx_words := List.mem_of_getElem? (i := 4) rfl
theorem nx_5 : (Cond.methodLinkNest "WasmMerge$Parser" 31 ⟨"WasmMerge$Function", "<init>", "()V"⟩ "WasmMerge") ∈ nx_words := List.mem_of_getElem? (i := 5) rfl
theorem nx_6 : (Cond.methodLinkNest "WasmMerge$Parser" 38 ⟨"WasmMerge$Part", "<init>", "()V"⟩ "WasmMerge") ∈ nx_words := List.mem_of_getElem? (i := 6) rfl
theorem nx_7 : (Cond.methodLinkNest "WasmMerge$Validator" 11 ⟨"WasmMerge$Reader", "<init>", "()V"⟩ "WasmMerge") ∈ nx_words := List.mem_of_getElem? (i := 7) rfl
theorem nx_8 : (Cond.methodLinkNest "WasmMerge$Validator" 38 ⟨"WasmMerge$Block", "<init>", "()V"⟩ "WasmMerge") ∈ nx_words := List.mem_of_getElem? (i := 8) rfl
theorem nx_9 : (Cond.methodLinkNest "WasmMerge$Machine" 13 ⟨"WasmMerge$Reader", "<init>", "()V"⟩ "WasmMerge") ∈ nx_words := List.mem_of_getElem? (i := 9) rfl
theorem nx_10 : (Cond.methodLinkNest "WasmMergeModel" 15 ⟨"WasmMergeModel$Unit", "<init>", "()V"⟩ "WasmMergeModel") ∈ nx_words := List.mem_of_getElem? (i := 10) rfl
theorem nx_11 : (Cond.castable "WasmMergeModel$Stop" "WasmMergeModel$Stop") ∈ nx_words := List.mem_of_getElem? (i := 11) rfl
theorem nx_12 : (Cond.castable "java/lang/IllegalArgumentException" "java/lang/IllegalArgumentException") ∈ nx_words := List.mem_of_getElem? (i := 12) rfl
theorem nx_13 : (Cond.castable "java/lang/UnsupportedOperationException" "java/lang/UnsupportedOperationException") ∈ nx_words := List.mem_of_getElem? (i := 13) rfl
theorem nx_14 : (Cond.castable "java/lang/IllegalStateException" "java/lang/IllegalStateException") ∈ nx_words := List.mem_of_getElem? (i := 14) rfl
theorem nx_15 : (Cond.castable "java/lang/IndexOutOfBoundsException" "java/lang/IndexOutOfBoundsException") ∈ nx_words := List.mem_of_getElem? (i := 15) rfl
theorem nx_16 : (Cond.castable "java/lang/ArithmeticException" "java/lang/ArithmeticException") ∈ nx_words := List.mem_of_getElem? (i := 16) rfl
theorem nx_17 : (Cond.declares ⟨"java/lang/RuntimeException", "<init>", "(Ljava/lang/String;)V"⟩) ∈ nx_words := List.mem_of_getElem? (i := 17) rfl
theorem nx_18 : (Cond.declares ⟨"java/lang/Exception", "<init>", "(Ljava/lang/String;)V"⟩) ∈ nx_words := List.mem_of_getElem? (i := 18) rfl
theorem nx_19 : (Cond.declares ⟨"java/lang/Throwable", "<init>", "(Ljava/lang/String;)V"⟩) ∈ nx_words := List.mem_of_getElem? (i := 19) rfl
def ao_list : List String := ["WasmMerge$Port", "WasmMerge$Function", "WasmMerge$Part", "WasmMerge$Block", "WasmMerge$Module", "WasmMergeModel$Unit"]
theorem ao_0 : "WasmMerge$Port" ∈ ao_list := List.mem_of_getElem? (i := 0) rfl
theorem ao_1 : "WasmMerge$Function" ∈ ao_list := List.mem_of_getElem? (i := 1) rfl
theorem ao_2 : "WasmMerge$Part" ∈ ao_list := List.mem_of_getElem? (i := 2) rfl
theorem ao_3 : "WasmMerge$Block" ∈ ao_list := List.mem_of_getElem? (i := 3) rfl
theorem ao_4 : "WasmMerge$Module" ∈ ao_list := List.mem_of_getElem? (i := 4) rfl
theorem ao_5 : "WasmMergeModel$Unit" ∈ ao_list := List.mem_of_getElem? (i := 5) rfl
def st_list : List (String × Nat × String) := [("WasmMerge", 105, "there are no modules"), ("WasmMerge", 126, "nothing is merged"), ("WasmMerge", 141, "nothing runs"), ("WasmMerge", 203, "there is no such module"), ("WasmMerge", 78, "the row has not so many bytes"), ("WasmMerge", 102, "the module has a fault")]
theorem st_0 : ("WasmMerge", 105, "there are no modules") ∈ st_list := List.mem_of_getElem? (i := 0) rfl
theorem st_1 : ("WasmMerge", 126, "nothing is merged") ∈ st_list := List.mem_of_getElem? (i := 1) rfl
theorem st_2 : ("WasmMerge", 141, "nothing runs") ∈ st_list := List.mem_of_getElem? (i := 2) rfl
theorem st_3 : ("WasmMerge", 203, "there is no such module") ∈ st_list := List.mem_of_getElem? (i := 3) rfl
theorem st_4 : ("WasmMerge", 78, "the row has not so many bytes") ∈ st_list := List.mem_of_getElem? (i := 4) rfl
theorem st_5 : ("WasmMerge", 102, "the module has a fault") ∈ st_list := List.mem_of_getElem? (i := 5) rfl
def no_list : List (String × String) := [("java/lang/UnsupportedOperationException", "java/lang/IllegalStateException")]
theorem no_0 : ("java/lang/UnsupportedOperationException", "java/lang/IllegalStateException") ∈ no_list := List.mem_of_getElem? (i := 0) rfl
/-- words that stay when tables warm, though the kit's calls don't carry them -/
def nx_kind : Cond → Bool
  | .methodLinkNest .. => true
  | .fieldLinkNest .. => true
  | .declares _ => true
  | .castable .. => true
  | _ => false
theorem nx_ok : ∀ w ∈ nx_words, nx_kind w = true := List.all_eq_true.mp (by decide +kernel)
theorem nx_warm {w : Cond} (hk : nx_kind w = true) {s U : State} (hW : s.WarmedH U.vm) (h : va_Nw w s) : va_Nw w U := by
  cases w <;> first | exact va_Nw.warmM hW h | exact va_Nw.warmF hW h | exact va_Nw.warmD hW h | exact va_Nw.warmC hW h | cases hk
/-- what the contracts carry beside the words -/
def tw_X (U : State) : Prop := (∀ w ∈ nx_words, va_Nw w U) ∧ (∀ C ∈ ao_list, va_AO C U) ∧ (∀ q ∈ st_list, ∃ a, vk_R q.1 q.2.1 q.2.2 a U) ∧ (∀ q ∈ no_list, tw_no q.1 q.2 U)
theorem tw_X.warm {s U : State} (hW : s.WarmedH U.vm) (h : tw_X s) : tw_X U :=
  ⟨fun w hw => nx_warm (nx_ok w hw) hW (h.1 w hw), fun C hC => (h.2.1 C hC).moved hW.alike, fun q hq => let ⟨a, ha⟩ := h.2.2.1 q hq; ⟨a, ha.warm hW⟩, fun q hq => (h.2.2.2 q hq).moved hW.alike⟩
theorem tw_X.same {u U : State} (hv : U.vm = u.vm) (h : tw_X u) : tw_X U := h.warm (by rw [hv]; exact State.WarmedH.refl u)
/-- what a throw asks of Throwable's statics -/
def zs_words : List Cond := [.laysStatic "java/lang/Throwable" "UNASSIGNED_STACK" "[Ljava/lang/StackTraceElement;", .laysStatic "java/lang/Throwable" "SUPPRESSED_SENTINEL" "Ljava/util/List;", .isRef (.static "java/lang/Throwable" "UNASSIGNED_STACK" "[Ljava/lang/StackTraceElement;"), .isRef (.static "java/lang/Throwable" "SUPPRESSED_SENTINEL" "Ljava/util/List;")]
def tw_Z (U : State) : Prop := ∀ (a : Array Value), ∀ w ∈ zs_words, w.before a U = true
theorem tw_Zl {C n d : String} {s U : State} {a a' : Array Value} (hvm : s.vm.Alike U.vm) (hh : ∀ (q : Nat) (cell : Cell), s.heap[q]? = some cell → cell.vm.isStatics = true → U.heap[q]? = some cell) (h : (Cond.laysStatic C n d).before a s = true) : (Cond.laysStatic C n d).before a' U = true := by
  obtain ⟨c, k, i, f, ad, cell, hc, hi, hst, hsta, hcell, hiss, hcls, hlt, hty⟩ := Cond.laysStatic_spec h
  obtain ⟨k', hi', he⟩ := State.fieldFound?_setVm hvm hi
  have hi2 : U.fieldFound? C n d = some (c, k', i, f) := hi'
  have hc2 : U.vm.findClass C = some c := by rw [hvm.findClass]; exact hc
  have hsta2 : k'.statics = some ad := by rw [he]; exact hsta
  have hty2 : k'.staticTypes[f.slot]? = some f.type := by rw [he]; exact hty
  have hcell2 : U.heap[ad]? = some cell := hh ad cell hcell hiss
  simp [Cond.before, Cond.holds, Cond.value, hc2, hi2, hst, hsta2, hcell2, hiss, hcls, hlt, hty2]
theorem tw_Zr {C n d : String} {s U : State} {a a' : Array Value} (hvm : s.vm.Alike U.vm) (hh : ∀ (q : Nat) (cell : Cell), s.heap[q]? = some cell → cell.vm.isStatics = true → U.heap[q]? = some cell) (hl : (Cond.laysStatic C n d).before a s = true) (h : (Cond.isRef (.static C n d)).before a s = true) : (Cond.isRef (.static C n d)).before a' U = true := by
  obtain ⟨c, k, i, f, ad, cell, hc, hi, hst, hsta, hcell, hiss, hcls, hlt, hty⟩ := Cond.laysStatic_spec hl
  obtain ⟨k', hi', he⟩ := State.fieldFound?_setVm hvm hi
  have hi2 : U.fieldFound? C n d = some (c, k', i, f) := hi'
  have hsta2 : k'.statics = some ad := by rw [he]; exact hsta
  have hcell2 : U.heap[ad]? = some cell := hh ad cell hcell hiss
  have hv : cell.slots[f.slot]? = some cell.slots[f.slot] := Array.getElem?_eq_getElem hlt
  have e1 : (Term.static C n d).eval a s none [] s = some cell.slots[f.slot] := by simp [Term.eval, State.fieldNamed?, hi, hst, hsta, hcell, hiss, hv]
  have e2 : (Term.static C n d).eval a' U none [] U = some cell.slots[f.slot] := by simp [Term.eval, State.fieldNamed?, hi2, hst, hsta2, hcell2, hiss, hv]
  simp only [Cond.before, Cond.holds, Cond.value, e1] at h
  simp only [Cond.before, Cond.holds, Cond.value, e2]
  exact h
theorem tw_Z.of {s U : State} {a : Array Value} (hvm : s.vm.Alike U.vm) (hh : ∀ (q : Nat) (cell : Cell), s.heap[q]? = some cell → cell.vm.isStatics = true → U.heap[q]? = some cell) (h : ∀ w ∈ zs_words, w.before a s = true) : tw_Z U := by
  intro a' w hw
  simp only [zs_words, List.mem_cons, List.not_mem_nil, or_false] at hw
  rcases hw with rfl | rfl | rfl | rfl
  · exact tw_Zl hvm hh (h _ (List.mem_of_getElem? (i := 0) rfl))
  · exact tw_Zl hvm hh (h _ (List.mem_of_getElem? (i := 1) rfl))
  · exact tw_Zr hvm hh (h _ (List.mem_of_getElem? (i := 0) rfl)) (h _ (List.mem_of_getElem? (i := 2) rfl))
  · exact tw_Zr hvm hh (h _ (List.mem_of_getElem? (i := 1) rfl)) (h _ (List.mem_of_getElem? (i := 3) rfl))
theorem tw_Z.kept {s U : State} (hvm : s.vm.Alike U.vm) (hh : ∀ q : Nat, q < s.heap.size → U.heap[q]? = s.heap[q]?) (h : tw_Z s) : tw_Z U := tw_Z.of hvm (fun q cell hc _ => by rw [hh q (Array.getElem?_eq_some_iff.mp hc).1]; exact hc) (h #[])
theorem tw_notA {D : va_G} {cl : List vw_C} {ws : va_W} {s : State} {A : Nat → Prop} {q : Nat} {cell : Cell} (hP : va_P D cl ws s.heap) (hAe : va_A ws s.heap.size = A) (hc : s.heap[q]? = some cell) (hs : cell.vm.isStatics = true) : ¬ A q := fun hq => by
  have h := tw_hlocs (locs := [⟨q, 0⟩]) hP hAe (fun l hl => by rw [List.mem_singleton.mp hl]; exact hq) ⟨q, 0⟩ (List.mem_singleton.mpr rfl) cell hc
  rw [hs] at h; cases h
theorem tw_Z.keptA {D : va_G} {cl : List vw_C} {ws : va_W} {s U : State} {A : Nat → Prop} {H : Heap} {locs : List Loc} (h : tw_Z s) (hP : va_P D cl ws s.heap) (hAe : va_A ws s.heap.size = A) (hS : va_S A s.heap H locs) (hU : U.heap = H) (hvm : s.vm.Alike U.vm) : tw_Z U :=
  tw_Z.of hvm (fun q cell hc hs => by rw [hU, hS.2.1 q (Array.getElem?_eq_some_iff.mp hc).1 (tw_notA hP hAe hc hs)]; exact hc) (h #[])
theorem tw_gets {D : va_G} {cl : List vw_C} {ws : va_W} {s : State} {A : Nat → Prop} {C n d : String} {a args : Array Value} (hl : (Cond.laysStatic C n d).before a s = true) (hr : (Cond.isRef (.static C n d)).before a s = true) (hini : (Cond.initialized C).before args s = true) (hP : va_P D cl ws s.heap) (hAe : va_A ws s.heap.size = A) : ∃ v : Value, (v = .null ∨ ∃ t, v = .ref t) ∧ va_Z C n d v A s s.heap := by
  obtain ⟨c, k, i, f, ad, cell, hc, hi, hst, hsta, hcell, hiss, hcls, hlt, hty⟩ := Cond.laysStatic_spec hl
  have hv : cell.slots[f.slot]? = some cell.slots[f.slot] := Array.getElem?_eq_getElem hlt
  have e1 : (Term.static C n d).eval a s none [] s = some cell.slots[f.slot] := by simp [Term.eval, State.fieldNamed?, hi, hst, hsta, hcell, hiss, hv]
  refine ⟨cell.slots[f.slot], ?_, c, k, i, f, ad, cell, hi, hst, Cond.initialized_spec hc (State.fieldFound?_spec hi).1 hini, hsta, hcell, hiss, hv, tw_notA hP hAe hcell hiss⟩
  simp only [Cond.before, Cond.holds, Cond.value, e1] at hr
  cases hz : cell.slots[f.slot] with
  | null => exact Or.inl rfl
  | ref t => exact Or.inr ⟨t, rfl⟩
  | _ => simp [hz] at hr
theorem nx_tab : ∀ w ∈ nx_words, w.onTables = true := List.all_eq_true.mp (by decide +kernel)
theorem tw_hat {own X : String} {ic : Nat} {names : List String} {args : Array Value} {s : State} (h : (Bundle.ownAtoms own ic X names).all (fun w => (decide (w ∈ lw_tbl) && goodWord w) || (decide (w ∈ nx_words) || decide (w ∈ zs_words))) = true) (htb : ∀ w ∈ tb, w.before args s = true) (hX : tw_X s) (hZ : tw_Z s) : ∀ w ∈ Bundle.ownAtoms own ic X names, w.before args s = true := by
  intro w hw
  have h1 := List.all_eq_true.mp h w hw
  simp only [Bool.or_eq_true, Bool.and_eq_true, decide_eq_true_eq] at h1
  rcases h1 with ⟨h2, h3⟩ | h2 | h2
  · exact htb w (tb_mem h2 h3)
  · exact va_Nw.use (nx_tab w h2) (hX.1 w h2)
  · exact hZ args w h2
theorem tw_i0 {n : Int32} (h1 : ¬ n < 0) (h2 : n ≤ 0) : n = 0 := by
  apply Int32.toInt_inj.mp
  have a : ¬ n.toInt < 0 := fun h => h1 (Int32.lt_iff_toInt_lt.mpr (by simpa using h))
  have b : n.toInt ≤ 0 := by simpa using Int32.le_iff_toInt_le.mp h2
  have e : n.toInt = 0 := by omega
  simpa using e
theorem tw_ige {n : Int32} (h1 : ¬ n < 0) : (0 : Int32) ≤ n := by
  apply Int32.le_iff_toInt_le.mpr
  have a : ¬ n.toInt < 0 := fun h => h1 (Int32.lt_iff_toInt_lt.mpr (by simpa using h))
  have : (0 : Int32).toInt = 0 := by decide
  omega
set_option maxRecDepth 100000 in
theorem oa_C_ISE : (Bundle.ownAtoms "WasmMerge" 69 "java/lang/IllegalStateException" ["java/lang/RuntimeException", "java/lang/Exception"]).all (fun w => (decide (w ∈ lw_tbl) && goodWord w) || (decide (w ∈ nx_words) || decide (w ∈ zs_words))) = true := by decide +kernel
set_option maxRecDepth 100000 in
theorem oa_C_IOOBE : (Bundle.ownAtoms "WasmMerge" 151 "java/lang/IndexOutOfBoundsException" ["java/lang/RuntimeException", "java/lang/Exception"]).all (fun w => (decide (w ∈ lw_tbl) && goodWord w) || (decide (w ∈ nx_words) || decide (w ∈ zs_words))) = true := by decide +kernel
set_option maxRecDepth 100000 in
theorem oa_C_IAE : (Bundle.ownAtoms "WasmMerge" 80 "java/lang/IllegalArgumentException" ["java/lang/RuntimeException", "java/lang/Exception"]).all (fun w => (decide (w ∈ lw_tbl) && goodWord w) || (decide (w ∈ nx_words) || decide (w ∈ zs_words))) = true := by decide +kernel
set_option maxRecDepth 100000 in
theorem oa_C_UOE : (Bundle.ownAtoms "WasmMerge" 104 "java/lang/UnsupportedOperationException" ["java/lang/RuntimeException", "java/lang/Exception"]).all (fun w => (decide (w ∈ lw_tbl) && goodWord w) || (decide (w ∈ nx_words) || decide (w ∈ zs_words))) = true := by decide +kernel
abbrev b_Port_init : ByteArray := prog_10_method_1_code
def y_Port_init : MethodName := ⟨"WasmMerge$Port", "<init>", "()V"⟩
def ws_Port_init : List Cond := Cond.code ⟨"WasmMerge$Port", "<init>", "()V"⟩ prog_10_method_1_code 1 none :: tb
abbrev b_Function_init : ByteArray := prog_3_method_1_code
def y_Function_init : MethodName := ⟨"WasmMerge$Function", "<init>", "()V"⟩
def ws_Function_init : List Cond := Cond.code ⟨"WasmMerge$Function", "<init>", "()V"⟩ prog_3_method_1_code 1 none :: tb
abbrev b_Part_init : ByteArray := prog_9_method_1_code
def y_Part_init : MethodName := ⟨"WasmMerge$Part", "<init>", "()V"⟩
def ws_Part_init : List Cond := Cond.code ⟨"WasmMerge$Part", "<init>", "()V"⟩ prog_9_method_1_code 1 none :: tb
abbrev b_Block_init : ByteArray := prog_2_method_1_code
def y_Block_init : MethodName := ⟨"WasmMerge$Block", "<init>", "()V"⟩
def ws_Block_init : List Cond := Cond.code ⟨"WasmMerge$Block", "<init>", "()V"⟩ prog_2_method_1_code 1 none :: tb
abbrev b_Reader_init : ByteArray := prog_11_method_1_code
def y_Reader_init : MethodName := ⟨"WasmMerge$Reader", "<init>", "()V"⟩
def ws_Reader_init : List Cond := Cond.code ⟨"WasmMerge$Reader", "<init>", "()V"⟩ prog_11_method_1_code 1 none :: tb
abbrev b_Module_init : ByteArray := prog_6_method_1_code
def y_Module_init : MethodName := ⟨"WasmMerge$Module", "<init>", "()V"⟩
def ws_Module_init : List Cond := Cond.code ⟨"WasmMerge$Module", "<init>", "()V"⟩ prog_6_method_1_code 2 none :: tb
abbrev b_Parser_init : ByteArray := prog_8_method_1_code
def y_Parser_init : MethodName := ⟨"WasmMerge$Parser", "<init>", "(LWasmMerge$Module;)V"⟩
def ws_Parser_init : List Cond := Cond.code ⟨"WasmMerge$Parser", "<init>", "(LWasmMerge$Module;)V"⟩ prog_8_method_1_code 2 none :: tb
abbrev b_Validator_init : ByteArray := prog_12_method_1_code
def y_Validator_init : MethodName := ⟨"WasmMerge$Validator", "<init>", "([ILWasmMerge$Module;)V"⟩
def ws_Validator_init : List Cond := Cond.code ⟨"WasmMerge$Validator", "<init>", "([ILWasmMerge$Module;)V"⟩ prog_12_method_1_code 4 none :: tb
abbrev b_Link_init : ByteArray := prog_4_method_1_code
def y_Link_init : MethodName := ⟨"WasmMerge$Link", "<init>", "([LWasmMerge$Module;)V"⟩
def ws_Link_init : List Cond := Cond.code ⟨"WasmMerge$Link", "<init>", "([LWasmMerge$Module;)V"⟩ prog_4_method_1_code 2 none :: tb
abbrev b_Machine_init : ByteArray := prog_5_method_1_code
def y_Machine_init : MethodName := ⟨"WasmMerge$Machine", "<init>", "([ILWasmMerge$Link;)V"⟩
def ws_Machine_init : List Cond := Cond.code ⟨"WasmMerge$Machine", "<init>", "([ILWasmMerge$Link;)V"⟩ prog_5_method_1_code 3 none :: tb
abbrev b_C_init : ByteArray := prog_1_method_1_code
def y_C_init : MethodName := ⟨"WasmMerge", "<init>", "()V"⟩
def ws_C_init : List Cond := Cond.code ⟨"WasmMerge", "<init>", "()V"⟩ prog_1_method_1_code 2 none :: tb
abbrev b_MUnit_init : ByteArray := prog_16_method_1_code
def y_MUnit_init : MethodName := ⟨"WasmMergeModel$Unit", "<init>", "()V"⟩
def ws_MUnit_init : List Cond := Cond.code ⟨"WasmMergeModel$Unit", "<init>", "()V"⟩ prog_16_method_1_code 1 none :: tb
abbrev b_M_init : ByteArray := prog_14_method_1_code
def y_M_init : MethodName := ⟨"WasmMergeModel", "<init>", "()V"⟩
def ws_M_init : List Cond := Cond.code ⟨"WasmMergeModel", "<init>", "()V"⟩ prog_14_method_1_code 1 none :: tb
abbrev b_C_feedWord : ByteArray := prog_1_method_3_code
def y_C_feedWord : MethodName := ⟨"WasmMerge", "feedWord", "(I)V"⟩
def ws_C_feedWord : List Cond := Cond.code ⟨"WasmMerge", "feedWord", "(I)V"⟩ prog_1_method_3_code 3 none :: tb
abbrev b_C_feed : ByteArray := prog_1_method_2_code
def y_C_feed : MethodName := ⟨"WasmMerge", "feed", "(IIIII)I"⟩
def ws_C_feed : List Cond := Cond.code ⟨"WasmMerge", "feed", "(IIIII)I"⟩ prog_1_method_2_code 6 (some .int) :: tb
abbrev b_C_end : ByteArray := prog_1_method_4_code
def y_C_end : MethodName := ⟨"WasmMerge", "end", "(I)I"⟩
def ws_C_end : List Cond := Cond.code ⟨"WasmMerge", "end", "(I)I"⟩ prog_1_method_4_code 2 (some .int) :: tb
abbrev b_C_dropMerge : ByteArray := prog_1_method_8_code
def y_C_dropMerge : MethodName := ⟨"WasmMerge", "dropMerge", "()V"⟩
def ws_C_dropMerge : List Cond := Cond.code ⟨"WasmMerge", "dropMerge", "()V"⟩ prog_1_method_8_code 1 none :: tb
abbrev b_C_clear : ByteArray := prog_1_method_6_code
def y_C_clear : MethodName := ⟨"WasmMerge", "clear", "()I"⟩
def ws_C_clear : List Cond := Cond.code ⟨"WasmMerge", "clear", "()I"⟩ prog_1_method_6_code 2 (some .int) :: tb
abbrev b_C_argument : ByteArray := prog_1_method_10_code
def y_C_argument : MethodName := ⟨"WasmMerge", "argument", "(J)I"⟩
def ws_C_argument : List Cond := Cond.code ⟨"WasmMerge", "argument", "(J)I"⟩ prog_1_method_10_code 3 (some .int) :: tb
abbrev b_C_fault : ByteArray := prog_1_method_13_code
def y_C_fault : MethodName := ⟨"WasmMerge", "fault", "()I"⟩
def ws_C_fault : List Cond := Cond.code ⟨"WasmMerge", "fault", "()I"⟩ prog_1_method_13_code 1 (some .int) :: tb
abbrev b_C_trap : ByteArray := prog_1_method_14_code
def y_C_trap : MethodName := ⟨"WasmMerge", "trap", "()I"⟩
def ws_C_trap : List Cond := Cond.code ⟨"WasmMerge", "trap", "()I"⟩ prog_1_method_14_code 1 (some .int) :: tb
abbrev b_Machine_takeOutput : ByteArray := prog_5_method_37_code
def y_Machine_takeOutput : MethodName := ⟨"WasmMerge$Machine", "takeOutput", "()J"⟩
def ws_Machine_takeOutput : List Cond := Cond.code ⟨"WasmMerge$Machine", "takeOutput", "()J"⟩ prog_5_method_37_code 3 (some .long) :: tb
abbrev b_C_take : ByteArray := prog_1_method_15_code
def y_C_take : MethodName := ⟨"WasmMerge", "take", "()J"⟩
def ws_C_take : List Cond := Cond.code ⟨"WasmMerge", "take", "()J"⟩ prog_1_method_15_code 1 (some .long) :: tb
abbrev b_C_merge : ByteArray := prog_1_method_7_code
def y_C_merge : MethodName := ⟨"WasmMerge", "merge", "()I"⟩
def ws_C_merge : List Cond := Cond.code ⟨"WasmMerge", "merge", "()I"⟩ prog_1_method_7_code 1 (some .int) :: tb
abbrev b_C_begin : ByteArray := prog_1_method_9_code
def y_C_begin : MethodName := ⟨"WasmMerge", "begin", "()I"⟩
def ws_C_begin : List Cond := Cond.code ⟨"WasmMerge", "begin", "()I"⟩ prog_1_method_9_code 1 (some .int) :: tb
abbrev b_C_check : ByteArray := prog_1_method_20_code
def y_C_check : MethodName := ⟨"WasmMerge", "check", "()I"⟩
def ws_C_check : List Cond := Cond.code ⟨"WasmMerge", "check", "()I"⟩ prog_1_method_20_code 1 (some .int) :: tb
abbrev b_C_count : ByteArray := prog_1_method_19_code
def y_C_count : MethodName := ⟨"WasmMerge", "count", "(I)I"⟩
def ws_C_count : List Cond := Cond.code ⟨"WasmMerge", "count", "(I)I"⟩ prog_1_method_19_code 2 (some .int) :: tb
abbrev b_C_memory : ByteArray := prog_1_method_16_code
def y_C_memory : MethodName := ⟨"WasmMerge", "memory", "(I)I"⟩
def ws_C_memory : List Cond := Cond.code ⟨"WasmMerge", "memory", "(I)I"⟩ prog_1_method_16_code 2 (some .int) :: tb
abbrev b_C_call : ByteArray := prog_1_method_11_code
def y_C_call : MethodName := ⟨"WasmMerge", "call", "(II)J"⟩
def ws_C_call : List Cond := Cond.code ⟨"WasmMerge", "call", "(II)J"⟩ prog_1_method_11_code 7 (some .long) :: tb
abbrev b_C_global : ByteArray := prog_1_method_17_code
def y_C_global : MethodName := ⟨"WasmMerge", "global", "(II)J"⟩
def ws_C_global : List Cond := Cond.code ⟨"WasmMerge", "global", "(II)J"⟩ prog_1_method_17_code 4 (some .long) :: tb
abbrev b_C_told : ByteArray := prog_1_method_18_code
def y_C_told : MethodName := ⟨"WasmMerge", "told", "(II)I"⟩
def ws_C_told : List Cond := Cond.code ⟨"WasmMerge", "told", "(II)I"⟩ prog_1_method_18_code 4 (some .int) :: tb
abbrev b_Module_reset : ByteArray := prog_6_method_2_code
def y_Module_reset : MethodName := ⟨"WasmMerge$Module", "reset", "()V"⟩
def ws_Module_reset : List Cond := Cond.code ⟨"WasmMerge$Module", "reset", "()V"⟩ prog_6_method_2_code 1 none :: tb
abbrev b_Reader_open : ByteArray := prog_11_method_2_code
def y_Reader_open : MethodName := ⟨"WasmMerge$Reader", "open", "([BII)V"⟩
def ws_Reader_open : List Cond := Cond.code ⟨"WasmMerge$Reader", "open", "([BII)V"⟩ prog_11_method_2_code 4 none :: tb
abbrev b_Reader_u8 : ByteArray := prog_11_method_3_code
def y_Reader_u8 : MethodName := ⟨"WasmMerge$Reader", "u8", "()I"⟩
def ws_Reader_u8 : List Cond := Cond.code ⟨"WasmMerge$Reader", "u8", "()I"⟩ prog_11_method_3_code 2 (some .int) :: tb
abbrev b_Parser_readHeader : ByteArray := prog_8_method_3_code
def y_Parser_readHeader : MethodName := ⟨"WasmMerge$Parser", "readHeader", "()V"⟩
def ws_Parser_readHeader : List Cond := Cond.code ⟨"WasmMerge$Parser", "readHeader", "()V"⟩ prog_8_method_3_code 4 none :: tb
abbrev b_Parser_parse : ByteArray := prog_8_method_2_code
def y_Parser_parse : MethodName := ⟨"WasmMerge$Parser", "parse", "([BILWasmMerge$Module;)I"⟩
def ws_Parser_parse : List Cond := Cond.code ⟨"WasmMerge$Parser", "parse", "([BILWasmMerge$Module;)I"⟩ prog_8_method_2_code 8 (some .int) :: tb
abbrev b_C_add : ByteArray := prog_1_method_5_code
def y_C_add : MethodName := ⟨"WasmMerge", "add", "()I"⟩
def ws_C_add : List Cond := Cond.code ⟨"WasmMerge", "add", "()I"⟩ prog_1_method_5_code 3 (some .int) :: tb
abbrev b_M_four : ByteArray := prog_14_method_68_code
def y_M_four : MethodName := ⟨"WasmMergeModel", "four", "(I)V"⟩
def ws_M_four : List Cond := Cond.code ⟨"WasmMergeModel", "four", "(I)V"⟩ prog_14_method_68_code 3 none :: tb
abbrev b_M_feed : ByteArray := prog_14_method_67_code
def y_M_feed : MethodName := ⟨"WasmMergeModel", "feed", "(IIIII)I"⟩
def ws_M_feed : List Cond := Cond.code ⟨"WasmMergeModel", "feed", "(IIIII)I"⟩ prog_14_method_67_code 6 (some .int) :: tb
abbrev b_M_end : ByteArray := prog_14_method_69_code
def y_M_end : MethodName := ⟨"WasmMergeModel", "end", "(I)I"⟩
def ws_M_end : List Cond := Cond.code ⟨"WasmMergeModel", "end", "(I)I"⟩ prog_14_method_69_code 2 (some .int) :: tb
abbrev b_M_gone : ByteArray := prog_14_method_70_code
def y_M_gone : MethodName := ⟨"WasmMergeModel", "gone", "()V"⟩
def ws_M_gone : List Cond := Cond.code ⟨"WasmMergeModel", "gone", "()V"⟩ prog_14_method_70_code 1 none :: tb
abbrev b_M_clear : ByteArray := prog_14_method_73_code
def y_M_clear : MethodName := ⟨"WasmMergeModel", "clear", "()I"⟩
def ws_M_clear : List Cond := Cond.code ⟨"WasmMergeModel", "clear", "()I"⟩ prog_14_method_73_code 2 (some .int) :: tb
abbrev b_M_merge : ByteArray := prog_14_method_76_code
def y_M_merge : MethodName := ⟨"WasmMergeModel", "merge", "()I"⟩
def ws_M_merge : List Cond := Cond.codeWith ⟨"WasmMergeModel", "merge", "()I"⟩ prog_14_method_76_code 3 (some .int) [(34, 105, 108, 91)] :: tb
abbrev b_M_begin : ByteArray := prog_14_method_77_code
def y_M_begin : MethodName := ⟨"WasmMergeModel", "begin", "()I"⟩
def ws_M_begin : List Cond := Cond.codeWith ⟨"WasmMergeModel", "begin", "()I"⟩ prog_14_method_77_code 2 (some .int) [(45, 49, 52, 91)] :: tb
abbrev b_M_argument : ByteArray := prog_14_method_78_code
def y_M_argument : MethodName := ⟨"WasmMergeModel", "argument", "(J)I"⟩
def ws_M_argument : List Cond := Cond.code ⟨"WasmMergeModel", "argument", "(J)I"⟩ prog_14_method_78_code 3 (some .int) :: tb
abbrev b_M_isExport : ByteArray := prog_14_method_79_code
def y_M_isExport : MethodName := ⟨"WasmMergeModel", "isExport", "(III)Z"⟩
def ws_M_isExport : List Cond := Cond.code ⟨"WasmMergeModel", "isExport", "(III)Z"⟩ prog_14_method_79_code 4 (some .boolean) :: tb
abbrev b_M_call : ByteArray := prog_14_method_80_code
def y_M_call : MethodName := ⟨"WasmMergeModel", "call", "(II)J"⟩
def ws_M_call : List Cond := Cond.codeWith ⟨"WasmMergeModel", "call", "(II)J"⟩ prog_14_method_80_code 7 (some .long) [(168, 173, 176, 91)] :: tb
abbrev b_M_fault : ByteArray := prog_14_method_81_code
def y_M_fault : MethodName := ⟨"WasmMergeModel", "fault", "()I"⟩
def ws_M_fault : List Cond := Cond.code ⟨"WasmMergeModel", "fault", "()I"⟩ prog_14_method_81_code 1 (some .int) :: tb
abbrev b_M_trap : ByteArray := prog_14_method_82_code
def y_M_trap : MethodName := ⟨"WasmMergeModel", "trap", "()I"⟩
def ws_M_trap : List Cond := Cond.code ⟨"WasmMergeModel", "trap", "()I"⟩ prog_14_method_82_code 1 (some .int) :: tb
abbrev b_M_take : ByteArray := prog_14_method_83_code
def y_M_take : MethodName := ⟨"WasmMergeModel", "take", "()J"⟩
def ws_M_take : List Cond := Cond.code ⟨"WasmMergeModel", "take", "()J"⟩ prog_14_method_83_code 3 (some .long) :: tb
abbrev b_M_memory : ByteArray := prog_14_method_84_code
def y_M_memory : MethodName := ⟨"WasmMergeModel", "memory", "(I)I"⟩
def ws_M_memory : List Cond := Cond.code ⟨"WasmMergeModel", "memory", "(I)I"⟩ prog_14_method_84_code 2 (some .int) :: tb
abbrev b_M_global : ByteArray := prog_14_method_85_code
def y_M_global : MethodName := ⟨"WasmMergeModel", "global", "(II)J"⟩
def ws_M_global : List Cond := Cond.code ⟨"WasmMergeModel", "global", "(II)J"⟩ prog_14_method_85_code 3 (some .long) :: tb
abbrev b_M_told : ByteArray := prog_14_method_86_code
def y_M_told : MethodName := ⟨"WasmMergeModel", "told", "(II)I"⟩
def ws_M_told : List Cond := Cond.code ⟨"WasmMergeModel", "told", "(II)I"⟩ prog_14_method_86_code 4 (some .int) :: tb
abbrev b_M_count : ByteArray := prog_14_method_87_code
def y_M_count : MethodName := ⟨"WasmMergeModel", "count", "(I)I"⟩
def ws_M_count : List Cond := Cond.code ⟨"WasmMergeModel", "count", "(I)I"⟩ prog_14_method_87_code 4 (some .int) :: tb
abbrev b_M_check : ByteArray := prog_14_method_88_code
def y_M_check : MethodName := ⟨"WasmMergeModel", "check", "()I"⟩
def ws_M_check : List Cond := Cond.code ⟨"WasmMergeModel", "check", "()I"⟩ prog_14_method_88_code 1 (some .int) :: tb
abbrev b_M_thrown : ByteArray := prog_14_method_2_code
def y_M_thrown : MethodName := ⟨"WasmMergeModel", "thrown", "()I"⟩
def ws_M_thrown : List Cond := Cond.code ⟨"WasmMergeModel", "thrown", "()I"⟩ prog_14_method_2_code 1 (some .int) :: tb
abbrev b_jThrowable_init : ByteArray := prog_34_method_5_code
def y_jThrowable_init : MethodName := ⟨"java/lang/Throwable", "<init>", "(Ljava/lang/String;Ljava/lang/Throwable;ZZ)V"⟩
def ws_jThrowable_init : List Cond := Cond.code ⟨"java/lang/Throwable", "<init>", "(Ljava/lang/String;Ljava/lang/Throwable;ZZ)V"⟩ prog_34_method_5_code 5 none :: tb
abbrev b_jException_init : ByteArray := prog_21_method_5_code
def y_jException_init : MethodName := ⟨"java/lang/Exception", "<init>", "(Ljava/lang/String;Ljava/lang/Throwable;ZZ)V"⟩
def ws_jException_init : List Cond := Cond.code ⟨"java/lang/Exception", "<init>", "(Ljava/lang/String;Ljava/lang/Throwable;ZZ)V"⟩ prog_21_method_5_code 5 none :: tb
abbrev b_jRuntimeException_init : ByteArray := prog_28_method_5_code
def y_jRuntimeException_init : MethodName := ⟨"java/lang/RuntimeException", "<init>", "(Ljava/lang/String;Ljava/lang/Throwable;ZZ)V"⟩
def ws_jRuntimeException_init : List Cond := Cond.code ⟨"java/lang/RuntimeException", "<init>", "(Ljava/lang/String;Ljava/lang/Throwable;ZZ)V"⟩ prog_28_method_5_code 5 none :: tb
abbrev b_MStop_init : ByteArray := prog_15_method_1_code
def y_MStop_init : MethodName := ⟨"WasmMergeModel$Stop", "<init>", "(I)V"⟩
def ws_MStop_init : List Cond := Cond.code ⟨"WasmMergeModel$Stop", "<init>", "(I)V"⟩ prog_15_method_1_code 2 none :: tb
abbrev b_M_one : ByteArray := prog_14_method_3_code
def y_M_one : MethodName := ⟨"WasmMergeModel", "one", "()I"⟩
def ws_M_one : List Cond := Cond.code ⟨"WasmMergeModel", "one", "()I"⟩ prog_14_method_3_code 1 (some .int) :: tb
abbrev b_M_read : ByteArray := prog_14_method_11_code
def y_M_read : MethodName := ⟨"WasmMergeModel", "read", "(LWasmMergeModel$Unit;)V"⟩
def ws_M_read : List Cond := Cond.code ⟨"WasmMergeModel", "read", "(LWasmMergeModel$Unit;)V"⟩ prog_14_method_11_code 12 none :: tb
abbrev b_M_add : ByteArray := prog_14_method_71_code
def y_M_add : MethodName := ⟨"WasmMergeModel", "add", "()I"⟩
def ws_M_add : List Cond := Cond.codeWith ⟨"WasmMergeModel", "add", "()I"⟩ prog_14_method_71_code 3 (some .int) [(76, 108, 111, 91)] :: tb
abbrev b_L_feed : ByteArray := method_3_code
def y_L_feed : MethodName := ⟨"WasmMergeLaw", "feed", "(LWasmMerge;IIIII[J)I"⟩
def ws_L_feed : List Cond := Cond.codeWith ⟨"WasmMergeLaw", "feed", "(LWasmMerge;IIIII[J)I"⟩ method_3_code 8 (some .int) [(0, 16, 19, 13)] :: tb
abbrev b_L_end : ByteArray := method_4_code
def y_L_end : MethodName := ⟨"WasmMergeLaw", "end", "(LWasmMerge;I[J)I"⟩
def ws_L_end : List Cond := Cond.codeWith ⟨"WasmMergeLaw", "end", "(LWasmMerge;I[J)I"⟩ method_4_code 4 (some .int) [(0, 9, 12, 19)] :: tb
abbrev b_L_add : ByteArray := method_5_code
def y_L_add : MethodName := ⟨"WasmMergeLaw", "add", "(LWasmMerge;[J)I"⟩
def ws_L_add : List Cond := Cond.codeWith ⟨"WasmMergeLaw", "add", "(LWasmMerge;[J)I"⟩ method_5_code 3 (some .int) [(0, 8, 11, 13), (0, 8, 14, 25)] :: tb
abbrev b_L_merge : ByteArray := method_6_code
def y_L_merge : MethodName := ⟨"WasmMergeLaw", "merge", "(LWasmMerge;[J)I"⟩
def ws_L_merge : List Cond := Cond.codeWith ⟨"WasmMergeLaw", "merge", "(LWasmMerge;[J)I"⟩ method_6_code 3 (some .int) [(0, 8, 11, 13), (0, 8, 14, 25)] :: tb
abbrev b_L_begin : ByteArray := method_7_code
def y_L_begin : MethodName := ⟨"WasmMergeLaw", "begin", "(LWasmMerge;[J)I"⟩
def ws_L_begin : List Cond := Cond.codeWith ⟨"WasmMergeLaw", "begin", "(LWasmMerge;[J)I"⟩ method_7_code 3 (some .int) [(0, 8, 11, 13), (0, 8, 14, 33)] :: tb
abbrev b_L_argument : ByteArray := method_8_code
def y_L_argument : MethodName := ⟨"WasmMergeLaw", "argument", "(LWasmMerge;J[J)I"⟩
def ws_L_argument : List Cond := Cond.codeWith ⟨"WasmMergeLaw", "argument", "(LWasmMerge;J[J)I"⟩ method_8_code 5 (some .int) [(0, 9, 12, 13)] :: tb
abbrev b_L_call : ByteArray := method_9_code
def y_L_call : MethodName := ⟨"WasmMergeLaw", "call", "(LWasmMerge;II[J)I"⟩
def ws_L_call : List Cond := Cond.codeWith ⟨"WasmMergeLaw", "call", "(LWasmMerge;II[J)I"⟩ method_9_code 5 (some .int) [(0, 9, 12, 13), (0, 9, 16, 43), (0, 9, 20, 19), (0, 9, 24, 33)] :: tb
abbrev b_L_memory : ByteArray := method_10_code
def y_L_memory : MethodName := ⟨"WasmMergeLaw", "memory", "(LWasmMerge;I[J)I"⟩
def ws_L_memory : List Cond := Cond.codeWith ⟨"WasmMergeLaw", "memory", "(LWasmMerge;I[J)I"⟩ method_10_code 4 (some .int) [(0, 9, 12, 13)] :: tb
abbrev b_L_global : ByteArray := method_11_code
def y_L_global : MethodName := ⟨"WasmMergeLaw", "global", "(LWasmMerge;II[J)I"⟩
def ws_L_global : List Cond := Cond.codeWith ⟨"WasmMergeLaw", "global", "(LWasmMerge;II[J)I"⟩ method_11_code 5 (some .int) [(0, 9, 12, 13), (0, 9, 16, 43), (0, 9, 20, 19)] :: tb
abbrev b_L_told : ByteArray := method_12_code
def y_L_told : MethodName := ⟨"WasmMergeLaw", "told", "(LWasmMerge;II[J)I"⟩
def ws_L_told : List Cond := Cond.codeWith ⟨"WasmMergeLaw", "told", "(LWasmMerge;II[J)I"⟩ method_12_code 5 (some .int) [(0, 10, 13, 43), (0, 10, 17, 19)] :: tb
abbrev b_L_count : ByteArray := method_13_code
def y_L_count : MethodName := ⟨"WasmMergeLaw", "count", "(LWasmMerge;I[J)I"⟩
def ws_L_count : List Cond := Cond.codeWith ⟨"WasmMergeLaw", "count", "(LWasmMerge;I[J)I"⟩ method_13_code 4 (some .int) [(0, 9, 12, 13), (0, 9, 15, 19)] :: tb
abbrev b_L_check : ByteArray := method_14_code
def y_L_check : MethodName := ⟨"WasmMergeLaw", "check", "(LWasmMerge;[J)I"⟩
def ws_L_check : List Cond := Cond.codeWith ⟨"WasmMergeLaw", "check", "(LWasmMerge;[J)I"⟩ method_14_code 3 (some .int) [(0, 8, 11, 13)] :: tb
abbrev b_L_law : ByteArray := code
def y_L_law : MethodName := ⟨"WasmMergeLaw", "law", "([I)Z"⟩
