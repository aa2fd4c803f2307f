/-! decode rows -/
theorem d_Port_init_0 : decode b_Port_init 0 = .ok (.aload_n 0, 1) := by decide +kernel
theorem d_Port_init_1 : decode b_Port_init 1 = .ok (.invokespecial 1, 3) := by decide +kernel
theorem d_Port_init_4 : decode b_Port_init 4 = .ok (.return_, 1) := by decide +kernel
theorem d_Function_init_0 : decode b_Function_init 0 = .ok (.aload_n 0, 1) := by decide +kernel
theorem d_Function_init_1 : decode b_Function_init 1 = .ok (.invokespecial 1, 3) := by decide +kernel
theorem d_Function_init_4 : decode b_Function_init 4 = .ok (.return_, 1) := by decide +kernel
theorem d_Part_init_0 : decode b_Part_init 0 = .ok (.aload_n 0, 1) := by decide +kernel
theorem d_Part_init_1 : decode b_Part_init 1 = .ok (.invokespecial 1, 3) := by decide +kernel
theorem d_Part_init_4 : decode b_Part_init 4 = .ok (.return_, 1) := by decide +kernel
theorem d_Block_init_0 : decode b_Block_init 0 = .ok (.aload_n 0, 1) := by decide +kernel
theorem d_Block_init_1 : decode b_Block_init 1 = .ok (.invokespecial 1, 3) := by decide +kernel
theorem d_Block_init_4 : decode b_Block_init 4 = .ok (.return_, 1) := by decide +kernel
theorem d_Reader_init_0 : decode b_Reader_init 0 = .ok (.aload_n 0, 1) := by decide +kernel
theorem d_Reader_init_1 : decode b_Reader_init 1 = .ok (.invokespecial 3, 3) := by decide +kernel
theorem d_Reader_init_4 : decode b_Reader_init 4 = .ok (.aload_n 0, 1) := by decide +kernel
theorem d_Reader_init_5 : decode b_Reader_init 5 = .ok (.iconst 0, 1) := by decide +kernel
theorem d_Reader_init_6 : decode b_Reader_init 6 = .ok (.newarray .byte, 2) := by decide +kernel
theorem d_Reader_init_8 : decode b_Reader_init 8 = .ok (.putfield 9, 3) := by decide +kernel
theorem d_Reader_init_11 : decode b_Reader_init 11 = .ok (.aload_n 0, 1) := by decide +kernel
theorem d_Reader_init_12 : decode b_Reader_init 12 = .ok (.bipush 21, 2) := by decide +kernel
theorem d_Reader_init_14 : decode b_Reader_init 14 = .ok (.newarray .int, 2) := by decide +kernel
theorem d_Reader_init_16 : decode b_Reader_init 16 = .ok (.putfield 15, 3) := by decide +kernel
theorem d_Reader_init_19 : decode b_Reader_init 19 = .ok (.return_, 1) := by decide +kernel
theorem d_Module_init_0 : decode b_Module_init 0 = .ok (.aload_n 0, 1) := by decide +kernel
theorem d_Module_init_1 : decode b_Module_init 1 = .ok (.invokespecial 3, 3) := by decide +kernel
theorem d_Module_init_4 : decode b_Module_init 4 = .ok (.aload_n 0, 1) := by decide +kernel
theorem d_Module_init_5 : decode b_Module_init 5 = .ok (.sipush 4000, 3) := by decide +kernel
theorem d_Module_init_8 : decode b_Module_init 8 = .ok (.newarray .byte, 2) := by decide +kernel
theorem d_Module_init_10 : decode b_Module_init 10 = .ok (.putfield 9, 3) := by decide +kernel
theorem d_Module_init_13 : decode b_Module_init 13 = .ok (.aload_n 0, 1) := by decide +kernel
theorem d_Module_init_14 : decode b_Module_init 14 = .ok (.bipush 40, 2) := by decide +kernel
theorem d_Module_init_16 : decode b_Module_init 16 = .ok (.newarray .int, 2) := by decide +kernel
theorem d_Module_init_18 : decode b_Module_init 18 = .ok (.putfield 15, 3) := by decide +kernel
theorem d_Module_init_21 : decode b_Module_init 21 = .ok (.aload_n 0, 1) := by decide +kernel
theorem d_Module_init_22 : decode b_Module_init 22 = .ok (.bipush 30, 2) := by decide +kernel
theorem d_Module_init_24 : decode b_Module_init 24 = .ok (.anewarray 19, 3) := by decide +kernel
theorem d_Module_init_27 : decode b_Module_init 27 = .ok (.putfield 21, 3) := by decide +kernel
theorem d_Module_init_30 : decode b_Module_init 30 = .ok (.aload_n 0, 1) := by decide +kernel
theorem d_Module_init_31 : decode b_Module_init 31 = .ok (.bipush 60, 2) := by decide +kernel
theorem d_Module_init_33 : decode b_Module_init 33 = .ok (.anewarray 25, 3) := by decide +kernel
theorem d_Module_init_36 : decode b_Module_init 36 = .ok (.putfield 27, 3) := by decide +kernel
theorem d_Module_init_39 : decode b_Module_init 39 = .ok (.aload_n 0, 1) := by decide +kernel
theorem d_Module_init_40 : decode b_Module_init 40 = .ok (.bipush 30, 2) := by decide +kernel
theorem d_Module_init_42 : decode b_Module_init 42 = .ok (.anewarray 31, 3) := by decide +kernel
theorem d_Module_init_45 : decode b_Module_init 45 = .ok (.putfield 33, 3) := by decide +kernel
theorem d_Module_init_48 : decode b_Module_init 48 = .ok (.aload_n 0, 1) := by decide +kernel
theorem d_Module_init_49 : decode b_Module_init 49 = .ok (.bipush 40, 2) := by decide +kernel
theorem d_Module_init_51 : decode b_Module_init 51 = .ok (.anewarray 19, 3) := by decide +kernel
theorem d_Module_init_54 : decode b_Module_init 54 = .ok (.putfield 37, 3) := by decide +kernel
theorem d_Module_init_57 : decode b_Module_init 57 = .ok (.aload_n 0, 1) := by decide +kernel
theorem d_Module_init_58 : decode b_Module_init 58 = .ok (.bipush 20, 2) := by decide +kernel
theorem d_Module_init_60 : decode b_Module_init 60 = .ok (.anewarray 31, 3) := by decide +kernel
theorem d_Module_init_63 : decode b_Module_init 63 = .ok (.putfield 40, 3) := by decide +kernel
theorem d_Module_init_66 : decode b_Module_init 66 = .ok (.aload_n 0, 1) := by decide +kernel
theorem d_Module_init_67 : decode b_Module_init 67 = .ok (.bipush 20, 2) := by decide +kernel
theorem d_Module_init_69 : decode b_Module_init 69 = .ok (.anewarray 31, 3) := by decide +kernel
theorem d_Module_init_72 : decode b_Module_init 72 = .ok (.putfield 43, 3) := by decide +kernel
theorem d_Module_init_75 : decode b_Module_init 75 = .ok (.aload_n 0, 1) := by decide +kernel
theorem d_Module_init_76 : decode b_Module_init 76 = .ok (.new 19, 3) := by decide +kernel
theorem d_Module_init_79 : decode b_Module_init 79 = .ok (.dup, 1) := by decide +kernel
theorem d_Module_init_80 : decode b_Module_init 80 = .ok (.invokespecial 46, 3) := by decide +kernel
theorem d_Module_init_83 : decode b_Module_init 83 = .ok (.putfield 47, 3) := by decide +kernel
theorem d_Module_init_86 : decode b_Module_init 86 = .ok (.aload_n 0, 1) := by decide +kernel
theorem d_Module_init_87 : decode b_Module_init 87 = .ok (.new 19, 3) := by decide +kernel
theorem d_Module_init_90 : decode b_Module_init 90 = .ok (.dup, 1) := by decide +kernel
theorem d_Module_init_91 : decode b_Module_init 91 = .ok (.invokespecial 46, 3) := by decide +kernel
theorem d_Module_init_94 : decode b_Module_init 94 = .ok (.putfield 51, 3) := by decide +kernel
theorem d_Module_init_97 : decode b_Module_init 97 = .ok (.aload_n 0, 1) := by decide +kernel
theorem d_Module_init_98 : decode b_Module_init 98 = .ok (.iconst (-1), 1) := by decide +kernel
theorem d_Module_init_99 : decode b_Module_init 99 = .ok (.putfield 54, 3) := by decide +kernel
theorem d_Module_init_102 : decode b_Module_init 102 = .ok (.iconst 0, 1) := by decide +kernel
theorem d_Module_init_103 : decode b_Module_init 103 = .ok (.istore_n 1, 1) := by decide +kernel
theorem d_Module_init_104 : decode b_Module_init 104 = .ok (.iload_n 1, 1) := by decide +kernel
theorem d_Module_init_105 : decode b_Module_init 105 = .ok (.bipush 30, 2) := by decide +kernel
theorem d_Module_init_107 : decode b_Module_init 107 = .ok (.if_icmp .ge 22, 3) := by decide +kernel
theorem d_Module_init_110 : decode b_Module_init 110 = .ok (.aload_n 0, 1) := by decide +kernel
theorem d_Module_init_111 : decode b_Module_init 111 = .ok (.getfield 21, 3) := by decide +kernel
theorem d_Module_init_114 : decode b_Module_init 114 = .ok (.iload_n 1, 1) := by decide +kernel
theorem d_Module_init_115 : decode b_Module_init 115 = .ok (.new 19, 3) := by decide +kernel
theorem d_Module_init_118 : decode b_Module_init 118 = .ok (.dup, 1) := by decide +kernel
theorem d_Module_init_119 : decode b_Module_init 119 = .ok (.invokespecial 46, 3) := by decide +kernel
theorem d_Module_init_122 : decode b_Module_init 122 = .ok (.aastore, 1) := by decide +kernel
theorem d_Module_init_123 : decode b_Module_init 123 = .ok (.iinc 1 1, 3) := by decide +kernel
theorem d_Module_init_126 : decode b_Module_init 126 = .ok (.goto (-22), 3) := by decide +kernel
theorem d_Module_init_129 : decode b_Module_init 129 = .ok (.iconst 0, 1) := by decide +kernel
theorem d_Module_init_130 : decode b_Module_init 130 = .ok (.istore_n 1, 1) := by decide +kernel
theorem d_Module_init_131 : decode b_Module_init 131 = .ok (.iload_n 1, 1) := by decide +kernel
theorem d_Module_init_132 : decode b_Module_init 132 = .ok (.bipush 60, 2) := by decide +kernel
theorem d_Module_init_134 : decode b_Module_init 134 = .ok (.if_icmp .ge 22, 3) := by decide +kernel
theorem d_Module_init_137 : decode b_Module_init 137 = .ok (.aload_n 0, 1) := by decide +kernel
theorem d_Module_init_138 : decode b_Module_init 138 = .ok (.getfield 27, 3) := by decide +kernel
theorem d_Module_init_141 : decode b_Module_init 141 = .ok (.iload_n 1, 1) := by decide +kernel
theorem d_Module_init_142 : decode b_Module_init 142 = .ok (.new 25, 3) := by decide +kernel
theorem d_Module_init_145 : decode b_Module_init 145 = .ok (.dup, 1) := by decide +kernel
theorem d_Module_init_146 : decode b_Module_init 146 = .ok (.invokespecial 58, 3) := by decide +kernel
theorem d_Module_init_149 : decode b_Module_init 149 = .ok (.aastore, 1) := by decide +kernel
theorem d_Module_init_150 : decode b_Module_init 150 = .ok (.iinc 1 1, 3) := by decide +kernel
theorem d_Module_init_153 : decode b_Module_init 153 = .ok (.goto (-22), 3) := by decide +kernel
theorem d_Module_init_156 : decode b_Module_init 156 = .ok (.iconst 0, 1) := by decide +kernel
theorem d_Module_init_157 : decode b_Module_init 157 = .ok (.istore_n 1, 1) := by decide +kernel
theorem d_Module_init_158 : decode b_Module_init 158 = .ok (.iload_n 1, 1) := by decide +kernel
theorem d_Module_init_159 : decode b_Module_init 159 = .ok (.bipush 30, 2) := by decide +kernel
theorem d_Module_init_161 : decode b_Module_init 161 = .ok (.if_icmp .ge 22, 3) := by decide +kernel
theorem d_Module_init_164 : decode b_Module_init 164 = .ok (.aload_n 0, 1) := by decide +kernel
theorem d_Module_init_165 : decode b_Module_init 165 = .ok (.getfield 33, 3) := by decide +kernel
theorem d_Module_init_168 : decode b_Module_init 168 = .ok (.iload_n 1, 1) := by decide +kernel
theorem d_Module_init_169 : decode b_Module_init 169 = .ok (.new 31, 3) := by decide +kernel
theorem d_Module_init_172 : decode b_Module_init 172 = .ok (.dup, 1) := by decide +kernel
theorem d_Module_init_173 : decode b_Module_init 173 = .ok (.invokespecial 59, 3) := by decide +kernel
theorem d_Module_init_176 : decode b_Module_init 176 = .ok (.aastore, 1) := by decide +kernel
theorem d_Module_init_177 : decode b_Module_init 177 = .ok (.iinc 1 1, 3) := by decide +kernel
theorem d_Module_init_180 : decode b_Module_init 180 = .ok (.goto (-22), 3) := by decide +kernel
theorem d_Module_init_183 : decode b_Module_init 183 = .ok (.iconst 0, 1) := by decide +kernel
theorem d_Module_init_184 : decode b_Module_init 184 = .ok (.istore_n 1, 1) := by decide +kernel
theorem d_Module_init_185 : decode b_Module_init 185 = .ok (.iload_n 1, 1) := by decide +kernel
theorem d_Module_init_186 : decode b_Module_init 186 = .ok (.bipush 40, 2) := by decide +kernel
theorem d_Module_init_188 : decode b_Module_init 188 = .ok (.if_icmp .ge 22, 3) := by decide +kernel
theorem d_Module_init_191 : decode b_Module_init 191 = .ok (.aload_n 0, 1) := by decide +kernel
theorem d_Module_init_192 : decode b_Module_init 192 = .ok (.getfield 37, 3) := by decide +kernel
theorem d_Module_init_195 : decode b_Module_init 195 = .ok (.iload_n 1, 1) := by decide +kernel
theorem d_Module_init_196 : decode b_Module_init 196 = .ok (.new 19, 3) := by decide +kernel
theorem d_Module_init_199 : decode b_Module_init 199 = .ok (.dup, 1) := by decide +kernel
theorem d_Module_init_200 : decode b_Module_init 200 = .ok (.invokespecial 46, 3) := by decide +kernel
theorem d_Module_init_203 : decode b_Module_init 203 = .ok (.aastore, 1) := by decide +kernel
theorem d_Module_init_204 : decode b_Module_init 204 = .ok (.iinc 1 1, 3) := by decide +kernel
theorem d_Module_init_207 : decode b_Module_init 207 = .ok (.goto (-22), 3) := by decide +kernel
theorem d_Module_init_210 : decode b_Module_init 210 = .ok (.iconst 0, 1) := by decide +kernel
theorem d_Module_init_211 : decode b_Module_init 211 = .ok (.istore_n 1, 1) := by decide +kernel
theorem d_Module_init_212 : decode b_Module_init 212 = .ok (.iload_n 1, 1) := by decide +kernel
theorem d_Module_init_213 : decode b_Module_init 213 = .ok (.bipush 20, 2) := by decide +kernel
theorem d_Module_init_215 : decode b_Module_init 215 = .ok (.if_icmp .ge 22, 3) := by decide +kernel
theorem d_Module_init_218 : decode b_Module_init 218 = .ok (.aload_n 0, 1) := by decide +kernel
theorem d_Module_init_219 : decode b_Module_init 219 = .ok (.getfield 40, 3) := by decide +kernel
theorem d_Module_init_222 : decode b_Module_init 222 = .ok (.iload_n 1, 1) := by decide +kernel
theorem d_Module_init_223 : decode b_Module_init 223 = .ok (.new 31, 3) := by decide +kernel
theorem d_Module_init_226 : decode b_Module_init 226 = .ok (.dup, 1) := by decide +kernel
theorem d_Module_init_227 : decode b_Module_init 227 = .ok (.invokespecial 59, 3) := by decide +kernel
theorem d_Module_init_230 : decode b_Module_init 230 = .ok (.aastore, 1) := by decide +kernel
theorem d_Module_init_231 : decode b_Module_init 231 = .ok (.iinc 1 1, 3) := by decide +kernel
theorem d_Module_init_234 : decode b_Module_init 234 = .ok (.goto (-22), 3) := by decide +kernel
theorem d_Module_init_237 : decode b_Module_init 237 = .ok (.iconst 0, 1) := by decide +kernel
theorem d_Module_init_238 : decode b_Module_init 238 = .ok (.istore_n 1, 1) := by decide +kernel
theorem d_Module_init_239 : decode b_Module_init 239 = .ok (.iload_n 1, 1) := by decide +kernel
theorem d_Module_init_240 : decode b_Module_init 240 = .ok (.bipush 20, 2) := by decide +kernel
theorem d_Module_init_242 : decode b_Module_init 242 = .ok (.if_icmp .ge 22, 3) := by decide +kernel
theorem d_Module_init_245 : decode b_Module_init 245 = .ok (.aload_n 0, 1) := by decide +kernel
theorem d_Module_init_246 : decode b_Module_init 246 = .ok (.getfield 43, 3) := by decide +kernel
theorem d_Module_init_249 : decode b_Module_init 249 = .ok (.iload_n 1, 1) := by decide +kernel
theorem d_Module_init_250 : decode b_Module_init 250 = .ok (.new 31, 3) := by decide +kernel
theorem d_Module_init_253 : decode b_Module_init 253 = .ok (.dup, 1) := by decide +kernel
theorem d_Module_init_254 : decode b_Module_init 254 = .ok (.invokespecial 59, 3) := by decide +kernel
theorem d_Module_init_257 : decode b_Module_init 257 = .ok (.aastore, 1) := by decide +kernel
theorem d_Module_init_258 : decode b_Module_init 258 = .ok (.iinc 1 1, 3) := by decide +kernel
theorem d_Module_init_261 : decode b_Module_init 261 = .ok (.goto (-22), 3) := by decide +kernel
theorem d_Module_init_264 : decode b_Module_init 264 = .ok (.return_, 1) := by decide +kernel
theorem d_Parser_init_0 : decode b_Parser_init 0 = .ok (.aload_n 0, 1) := by decide +kernel
theorem d_Parser_init_1 : decode b_Parser_init 1 = .ok (.invokespecial 3, 3) := by decide +kernel
theorem d_Parser_init_4 : decode b_Parser_init 4 = .ok (.aload_n 0, 1) := by decide +kernel
theorem d_Parser_init_5 : decode b_Parser_init 5 = .ok (.new 9, 3) := by decide +kernel
theorem d_Parser_init_8 : decode b_Parser_init 8 = .ok (.dup, 1) := by decide +kernel
theorem d_Parser_init_9 : decode b_Parser_init 9 = .ok (.invokespecial 11, 3) := by decide +kernel
theorem d_Parser_init_12 : decode b_Parser_init 12 = .ok (.putfield 12, 3) := by decide +kernel
theorem d_Parser_init_15 : decode b_Parser_init 15 = .ok (.aload_n 0, 1) := by decide +kernel
theorem d_Parser_init_16 : decode b_Parser_init 16 = .ok (.sipush 4001, 3) := by decide +kernel
theorem d_Parser_init_19 : decode b_Parser_init 19 = .ok (.newarray .int, 2) := by decide +kernel
theorem d_Parser_init_21 : decode b_Parser_init 21 = .ok (.putfield 18, 3) := by decide +kernel
theorem d_Parser_init_24 : decode b_Parser_init 24 = .ok (.aload_n 0, 1) := by decide +kernel
theorem d_Parser_init_25 : decode b_Parser_init 25 = .ok (.new 22, 3) := by decide +kernel
theorem d_Parser_init_28 : decode b_Parser_init 28 = .ok (.dup, 1) := by decide +kernel
theorem d_Parser_init_29 : decode b_Parser_init 29 = .ok (.invokespecial 24, 3) := by decide +kernel
theorem d_Parser_init_32 : decode b_Parser_init 32 = .ok (.putfield 25, 3) := by decide +kernel
theorem d_Parser_init_35 : decode b_Parser_init 35 = .ok (.aload_n 0, 1) := by decide +kernel
theorem d_Parser_init_36 : decode b_Parser_init 36 = .ok (.new 29, 3) := by decide +kernel
theorem d_Parser_init_39 : decode b_Parser_init 39 = .ok (.dup, 1) := by decide +kernel
theorem d_Parser_init_40 : decode b_Parser_init 40 = .ok (.invokespecial 31, 3) := by decide +kernel
theorem d_Parser_init_43 : decode b_Parser_init 43 = .ok (.putfield 32, 3) := by decide +kernel
theorem d_Parser_init_46 : decode b_Parser_init 46 = .ok (.aload_n 0, 1) := by decide +kernel
theorem d_Parser_init_47 : decode b_Parser_init 47 = .ok (.new 36, 3) := by decide +kernel
theorem d_Parser_init_50 : decode b_Parser_init 50 = .ok (.dup, 1) := by decide +kernel
theorem d_Parser_init_51 : decode b_Parser_init 51 = .ok (.invokespecial 38, 3) := by decide +kernel
theorem d_Parser_init_54 : decode b_Parser_init 54 = .ok (.putfield 39, 3) := by decide +kernel
theorem d_Parser_init_57 : decode b_Parser_init 57 = .ok (.aload_n 0, 1) := by decide +kernel
theorem d_Parser_init_58 : decode b_Parser_init 58 = .ok (.aload_n 1, 1) := by decide +kernel
theorem d_Parser_init_59 : decode b_Parser_init 59 = .ok (.putfield 43, 3) := by decide +kernel
theorem d_Parser_init_62 : decode b_Parser_init 62 = .ok (.return_, 1) := by decide +kernel
theorem d_Validator_init_0 : decode b_Validator_init 0 = .ok (.aload_n 0, 1) := by decide +kernel
theorem d_Validator_init_1 : decode b_Validator_init 1 = .ok (.invokespecial 3, 3) := by decide +kernel
theorem d_Validator_init_4 : decode b_Validator_init 4 = .ok (.aload_n 0, 1) := by decide +kernel
theorem d_Validator_init_5 : decode b_Validator_init 5 = .ok (.new 9, 3) := by decide +kernel
theorem d_Validator_init_8 : decode b_Validator_init 8 = .ok (.dup, 1) := by decide +kernel
theorem d_Validator_init_9 : decode b_Validator_init 9 = .ok (.invokespecial 11, 3) := by decide +kernel
theorem d_Validator_init_12 : decode b_Validator_init 12 = .ok (.putfield 12, 3) := by decide +kernel
theorem d_Validator_init_15 : decode b_Validator_init 15 = .ok (.aload_n 0, 1) := by decide +kernel
theorem d_Validator_init_16 : decode b_Validator_init 16 = .ok (.sipush 4000, 3) := by decide +kernel
theorem d_Validator_init_19 : decode b_Validator_init 19 = .ok (.newarray .int, 2) := by decide +kernel
theorem d_Validator_init_21 : decode b_Validator_init 21 = .ok (.putfield 18, 3) := by decide +kernel
theorem d_Validator_init_24 : decode b_Validator_init 24 = .ok (.aload_n 0, 1) := by decide +kernel
theorem d_Validator_init_25 : decode b_Validator_init 25 = .ok (.bipush 31, 2) := by decide +kernel
theorem d_Validator_init_27 : decode b_Validator_init 27 = .ok (.anewarray 22, 3) := by decide +kernel
theorem d_Validator_init_30 : decode b_Validator_init 30 = .ok (.putfield 24, 3) := by decide +kernel
theorem d_Validator_init_33 : decode b_Validator_init 33 = .ok (.aload_n 0, 1) := by decide +kernel
theorem d_Validator_init_34 : decode b_Validator_init 34 = .ok (.bipush 30, 2) := by decide +kernel
theorem d_Validator_init_36 : decode b_Validator_init 36 = .ok (.newarray .int, 2) := by decide +kernel
theorem d_Validator_init_38 : decode b_Validator_init 38 = .ok (.putfield 28, 3) := by decide +kernel
theorem d_Validator_init_41 : decode b_Validator_init 41 = .ok (.aload_n 0, 1) := by decide +kernel
theorem d_Validator_init_42 : decode b_Validator_init 42 = .ok (.aload_n 1, 1) := by decide +kernel
theorem d_Validator_init_43 : decode b_Validator_init 43 = .ok (.putfield 31, 3) := by decide +kernel
theorem d_Validator_init_46 : decode b_Validator_init 46 = .ok (.aload_n 0, 1) := by decide +kernel
theorem d_Validator_init_47 : decode b_Validator_init 47 = .ok (.aload_n 2, 1) := by decide +kernel
theorem d_Validator_init_48 : decode b_Validator_init 48 = .ok (.putfield 34, 3) := by decide +kernel
theorem d_Validator_init_51 : decode b_Validator_init 51 = .ok (.iconst 0, 1) := by decide +kernel
theorem d_Validator_init_52 : decode b_Validator_init 52 = .ok (.istore_n 3, 1) := by decide +kernel
theorem d_Validator_init_53 : decode b_Validator_init 53 = .ok (.iload_n 3, 1) := by decide +kernel
theorem d_Validator_init_54 : decode b_Validator_init 54 = .ok (.bipush 30, 2) := by decide +kernel
theorem d_Validator_init_56 : decode b_Validator_init 56 = .ok (.if_icmp .gt 22, 3) := by decide +kernel
theorem d_Validator_init_59 : decode b_Validator_init 59 = .ok (.aload_n 0, 1) := by decide +kernel
theorem d_Validator_init_60 : decode b_Validator_init 60 = .ok (.getfield 24, 3) := by decide +kernel
theorem d_Validator_init_63 : decode b_Validator_init 63 = .ok (.iload_n 3, 1) := by decide +kernel
theorem d_Validator_init_64 : decode b_Validator_init 64 = .ok (.new 22, 3) := by decide +kernel
theorem d_Validator_init_67 : decode b_Validator_init 67 = .ok (.dup, 1) := by decide +kernel
theorem d_Validator_init_68 : decode b_Validator_init 68 = .ok (.invokespecial 38, 3) := by decide +kernel
theorem d_Validator_init_71 : decode b_Validator_init 71 = .ok (.aastore, 1) := by decide +kernel
theorem d_Validator_init_72 : decode b_Validator_init 72 = .ok (.iinc 3 1, 3) := by decide +kernel
theorem d_Validator_init_75 : decode b_Validator_init 75 = .ok (.goto (-22), 3) := by decide +kernel
theorem d_Validator_init_78 : decode b_Validator_init 78 = .ok (.aload_n 0, 1) := by decide +kernel
theorem d_Validator_init_79 : decode b_Validator_init 79 = .ok (.aload_n 0, 1) := by decide +kernel
theorem d_Validator_init_80 : decode b_Validator_init 80 = .ok (.getfield 24, 3) := by decide +kernel
theorem d_Validator_init_83 : decode b_Validator_init 83 = .ok (.iconst 0, 1) := by decide +kernel
theorem d_Validator_init_84 : decode b_Validator_init 84 = .ok (.aaload, 1) := by decide +kernel
theorem d_Validator_init_85 : decode b_Validator_init 85 = .ok (.putfield 39, 3) := by decide +kernel
theorem d_Validator_init_88 : decode b_Validator_init 88 = .ok (.return_, 1) := by decide +kernel
theorem d_Link_init_0 : decode b_Link_init 0 = .ok (.aload_n 0, 1) := by decide +kernel
theorem d_Link_init_1 : decode b_Link_init 1 = .ok (.invokespecial 3, 3) := by decide +kernel
theorem d_Link_init_4 : decode b_Link_init 4 = .ok (.aload_n 0, 1) := by decide +kernel
theorem d_Link_init_5 : decode b_Link_init 5 = .ok (.sipush 360, 3) := by decide +kernel
theorem d_Link_init_8 : decode b_Link_init 8 = .ok (.newarray .int, 2) := by decide +kernel
theorem d_Link_init_10 : decode b_Link_init 10 = .ok (.putfield 9, 3) := by decide +kernel
theorem d_Link_init_13 : decode b_Link_init 13 = .ok (.aload_n 0, 1) := by decide +kernel
theorem d_Link_init_14 : decode b_Link_init 14 = .ok (.sipush 180, 3) := by decide +kernel
theorem d_Link_init_17 : decode b_Link_init 17 = .ok (.newarray .int, 2) := by decide +kernel
theorem d_Link_init_19 : decode b_Link_init 19 = .ok (.putfield 15, 3) := by decide +kernel
theorem d_Link_init_22 : decode b_Link_init 22 = .ok (.aload_n 0, 1) := by decide +kernel
theorem d_Link_init_23 : decode b_Link_init 23 = .ok (.sipush 360, 3) := by decide +kernel
theorem d_Link_init_26 : decode b_Link_init 26 = .ok (.newarray .int, 2) := by decide +kernel
theorem d_Link_init_28 : decode b_Link_init 28 = .ok (.putfield 18, 3) := by decide +kernel
theorem d_Link_init_31 : decode b_Link_init 31 = .ok (.aload_n 0, 1) := by decide +kernel
theorem d_Link_init_32 : decode b_Link_init 32 = .ok (.sipush 360, 3) := by decide +kernel
theorem d_Link_init_35 : decode b_Link_init 35 = .ok (.newarray .int, 2) := by decide +kernel
theorem d_Link_init_37 : decode b_Link_init 37 = .ok (.putfield 21, 3) := by decide +kernel
theorem d_Link_init_40 : decode b_Link_init 40 = .ok (.aload_n 0, 1) := by decide +kernel
theorem d_Link_init_41 : decode b_Link_init 41 = .ok (.sipush 360, 3) := by decide +kernel
theorem d_Link_init_44 : decode b_Link_init 44 = .ok (.newarray .int, 2) := by decide +kernel
theorem d_Link_init_46 : decode b_Link_init 46 = .ok (.putfield 24, 3) := by decide +kernel
theorem d_Link_init_49 : decode b_Link_init 49 = .ok (.aload_n 0, 1) := by decide +kernel
theorem d_Link_init_50 : decode b_Link_init 50 = .ok (.sipush 240, 3) := by decide +kernel
theorem d_Link_init_53 : decode b_Link_init 53 = .ok (.newarray .int, 2) := by decide +kernel
theorem d_Link_init_55 : decode b_Link_init 55 = .ok (.putfield 27, 3) := by decide +kernel
theorem d_Link_init_58 : decode b_Link_init 58 = .ok (.aload_n 0, 1) := by decide +kernel
theorem d_Link_init_59 : decode b_Link_init 59 = .ok (.aload_n 1, 1) := by decide +kernel
theorem d_Link_init_60 : decode b_Link_init 60 = .ok (.putfield 30, 3) := by decide +kernel
theorem d_Link_init_63 : decode b_Link_init 63 = .ok (.return_, 1) := by decide +kernel
theorem d_Machine_init_0 : decode b_Machine_init 0 = .ok (.aload_n 0, 1) := by decide +kernel
theorem d_Machine_init_1 : decode b_Machine_init 1 = .ok (.invokespecial 5, 3) := by decide +kernel
theorem d_Machine_init_4 : decode b_Machine_init 4 = .ok (.aload_n 0, 1) := by decide +kernel
theorem d_Machine_init_5 : decode b_Machine_init 5 = .ok (.new 11, 3) := by decide +kernel
theorem d_Machine_init_8 : decode b_Machine_init 8 = .ok (.dup, 1) := by decide +kernel
theorem d_Machine_init_9 : decode b_Machine_init 9 = .ok (.invokespecial 13, 3) := by decide +kernel
theorem d_Machine_init_12 : decode b_Machine_init 12 = .ok (.putfield 14, 3) := by decide +kernel
theorem d_Machine_init_15 : decode b_Machine_init 15 = .ok (.aload_n 0, 1) := by decide +kernel
theorem d_Machine_init_16 : decode b_Machine_init 16 = .ok (.sipush 23030, 3) := by decide +kernel
theorem d_Machine_init_19 : decode b_Machine_init 19 = .ok (.newarray .long, 2) := by decide +kernel
theorem d_Machine_init_21 : decode b_Machine_init 21 = .ok (.putfield 18, 3) := by decide +kernel
theorem d_Machine_init_24 : decode b_Machine_init 24 = .ok (.aload_n 0, 1) := by decide +kernel
theorem d_Machine_init_25 : decode b_Machine_init 25 = .ok (.bipush 100, 2) := by decide +kernel
theorem d_Machine_init_27 : decode b_Machine_init 27 = .ok (.newarray .int, 2) := by decide +kernel
theorem d_Machine_init_29 : decode b_Machine_init 29 = .ok (.putfield 22, 3) := by decide +kernel
theorem d_Machine_init_32 : decode b_Machine_init 32 = .ok (.aload_n 0, 1) := by decide +kernel
theorem d_Machine_init_33 : decode b_Machine_init 33 = .ok (.bipush 100, 2) := by decide +kernel
theorem d_Machine_init_35 : decode b_Machine_init 35 = .ok (.newarray .int, 2) := by decide +kernel
theorem d_Machine_init_37 : decode b_Machine_init 37 = .ok (.putfield 26, 3) := by decide +kernel
theorem d_Machine_init_40 : decode b_Machine_init 40 = .ok (.aload_n 0, 1) := by decide +kernel
theorem d_Machine_init_41 : decode b_Machine_init 41 = .ok (.ldc 29, 2) := by decide +kernel
theorem d_Machine_init_43 : decode b_Machine_init 43 = .ok (.newarray .byte, 2) := by decide +kernel
theorem d_Machine_init_45 : decode b_Machine_init 45 = .ok (.putfield 30, 3) := by decide +kernel
theorem d_Machine_init_48 : decode b_Machine_init 48 = .ok (.aload_n 0, 1) := by decide +kernel
theorem d_Machine_init_49 : decode b_Machine_init 49 = .ok (.iconst (-1), 1) := by decide +kernel
theorem d_Machine_init_50 : decode b_Machine_init 50 = .ok (.putfield 34, 3) := by decide +kernel
theorem d_Machine_init_53 : decode b_Machine_init 53 = .ok (.aload_n 0, 1) := by decide +kernel
theorem d_Machine_init_54 : decode b_Machine_init 54 = .ok (.sipush 200, 3) := by decide +kernel
theorem d_Machine_init_57 : decode b_Machine_init 57 = .ok (.newarray .int, 2) := by decide +kernel
theorem d_Machine_init_59 : decode b_Machine_init 59 = .ok (.putfield 38, 3) := by decide +kernel
theorem d_Machine_init_62 : decode b_Machine_init 62 = .ok (.aload_n 0, 1) := by decide +kernel
theorem d_Machine_init_63 : decode b_Machine_init 63 = .ok (.sipush 180, 3) := by decide +kernel
theorem d_Machine_init_66 : decode b_Machine_init 66 = .ok (.newarray .long, 2) := by decide +kernel
theorem d_Machine_init_68 : decode b_Machine_init 68 = .ok (.putfield 41, 3) := by decide +kernel
theorem d_Machine_init_71 : decode b_Machine_init 71 = .ok (.aload_n 0, 1) := by decide +kernel
theorem d_Machine_init_72 : decode b_Machine_init 72 = .ok (.sipush 2000, 3) := by decide +kernel
theorem d_Machine_init_75 : decode b_Machine_init 75 = .ok (.newarray .long, 2) := by decide +kernel
theorem d_Machine_init_77 : decode b_Machine_init 77 = .ok (.putfield 44, 3) := by decide +kernel
theorem d_Machine_init_80 : decode b_Machine_init 80 = .ok (.aload_n 0, 1) := by decide +kernel
theorem d_Machine_init_81 : decode b_Machine_init 81 = .ok (.aload_n 1, 1) := by decide +kernel
theorem d_Machine_init_82 : decode b_Machine_init 82 = .ok (.putfield 47, 3) := by decide +kernel
theorem d_Machine_init_85 : decode b_Machine_init 85 = .ok (.aload_n 0, 1) := by decide +kernel
theorem d_Machine_init_86 : decode b_Machine_init 86 = .ok (.aload_n 2, 1) := by decide +kernel
theorem d_Machine_init_87 : decode b_Machine_init 87 = .ok (.putfield 50, 3) := by decide +kernel
theorem d_Machine_init_90 : decode b_Machine_init 90 = .ok (.return_, 1) := by decide +kernel
theorem d_C_init_0 : decode b_C_init 0 = .ok (.aload_n 0, 1) := by decide +kernel
theorem d_C_init_1 : decode b_C_init 1 = .ok (.invokespecial 3, 3) := by decide +kernel
theorem d_C_init_4 : decode b_C_init 4 = .ok (.aload_n 0, 1) := by decide +kernel
theorem d_C_init_5 : decode b_C_init 5 = .ok (.sipush 4000, 3) := by decide +kernel
theorem d_C_init_8 : decode b_C_init 8 = .ok (.newarray .byte, 2) := by decide +kernel
theorem d_C_init_10 : decode b_C_init 10 = .ok (.putfield 9, 3) := by decide +kernel
theorem d_C_init_13 : decode b_C_init 13 = .ok (.aload_n 0, 1) := by decide +kernel
theorem d_C_init_14 : decode b_C_init 14 = .ok (.bipush 6, 2) := by decide +kernel
theorem d_C_init_16 : decode b_C_init 16 = .ok (.anewarray 13, 3) := by decide +kernel
theorem d_C_init_19 : decode b_C_init 19 = .ok (.putfield 15, 3) := by decide +kernel
theorem d_C_init_22 : decode b_C_init 22 = .ok (.aload_n 0, 1) := by decide +kernel
theorem d_C_init_23 : decode b_C_init 23 = .ok (.bipush 6, 2) := by decide +kernel
theorem d_C_init_25 : decode b_C_init 25 = .ok (.newarray .long, 2) := by decide +kernel
theorem d_C_init_27 : decode b_C_init 27 = .ok (.putfield 19, 3) := by decide +kernel
theorem d_C_init_30 : decode b_C_init 30 = .ok (.iconst 0, 1) := by decide +kernel
theorem d_C_init_31 : decode b_C_init 31 = .ok (.istore_n 1, 1) := by decide +kernel
theorem d_C_init_32 : decode b_C_init 32 = .ok (.iload_n 1, 1) := by decide +kernel
theorem d_C_init_33 : decode b_C_init 33 = .ok (.bipush 6, 2) := by decide +kernel
theorem d_C_init_35 : decode b_C_init 35 = .ok (.if_icmp .ge 22, 3) := by decide +kernel
theorem d_C_init_38 : decode b_C_init 38 = .ok (.aload_n 0, 1) := by decide +kernel
theorem d_C_init_39 : decode b_C_init 39 = .ok (.getfield 15, 3) := by decide +kernel
theorem d_C_init_42 : decode b_C_init 42 = .ok (.iload_n 1, 1) := by decide +kernel
theorem d_C_init_43 : decode b_C_init 43 = .ok (.new 13, 3) := by decide +kernel
theorem d_C_init_46 : decode b_C_init 46 = .ok (.dup, 1) := by decide +kernel
theorem d_C_init_47 : decode b_C_init 47 = .ok (.invokespecial 23, 3) := by decide +kernel
theorem d_C_init_50 : decode b_C_init 50 = .ok (.aastore, 1) := by decide +kernel
theorem d_C_init_51 : decode b_C_init 51 = .ok (.iinc 1 1, 3) := by decide +kernel
theorem d_C_init_54 : decode b_C_init 54 = .ok (.goto (-22), 3) := by decide +kernel
theorem d_C_init_57 : decode b_C_init 57 = .ok (.ldc 24, 2) := by decide +kernel
theorem d_C_init_59 : decode b_C_init 59 = .ok (.newarray .int, 2) := by decide +kernel
theorem d_C_init_61 : decode b_C_init 61 = .ok (.astore_n 1, 1) := by decide +kernel
theorem d_C_init_62 : decode b_C_init 62 = .ok (.aload_n 0, 1) := by decide +kernel
theorem d_C_init_63 : decode b_C_init 63 = .ok (.new 25, 3) := by decide +kernel
theorem d_C_init_66 : decode b_C_init 66 = .ok (.dup, 1) := by decide +kernel
theorem d_C_init_67 : decode b_C_init 67 = .ok (.aload_n 0, 1) := by decide +kernel
theorem d_C_init_68 : decode b_C_init 68 = .ok (.getfield 15, 3) := by decide +kernel
theorem d_C_init_71 : decode b_C_init 71 = .ok (.iconst 0, 1) := by decide +kernel
theorem d_C_init_72 : decode b_C_init 72 = .ok (.aaload, 1) := by decide +kernel
theorem d_C_init_73 : decode b_C_init 73 = .ok (.invokespecial 27, 3) := by decide +kernel
theorem d_C_init_76 : decode b_C_init 76 = .ok (.putfield 30, 3) := by decide +kernel
theorem d_C_init_79 : decode b_C_init 79 = .ok (.aload_n 0, 1) := by decide +kernel
theorem d_C_init_80 : decode b_C_init 80 = .ok (.new 34, 3) := by decide +kernel
theorem d_C_init_83 : decode b_C_init 83 = .ok (.dup, 1) := by decide +kernel
theorem d_C_init_84 : decode b_C_init 84 = .ok (.aload_n 1, 1) := by decide +kernel
theorem d_C_init_85 : decode b_C_init 85 = .ok (.aload_n 0, 1) := by decide +kernel
theorem d_C_init_86 : decode b_C_init 86 = .ok (.getfield 15, 3) := by decide +kernel
theorem d_C_init_89 : decode b_C_init 89 = .ok (.iconst 0, 1) := by decide +kernel
theorem d_C_init_90 : decode b_C_init 90 = .ok (.aaload, 1) := by decide +kernel
theorem d_C_init_91 : decode b_C_init 91 = .ok (.invokespecial 36, 3) := by decide +kernel
theorem d_C_init_94 : decode b_C_init 94 = .ok (.putfield 39, 3) := by decide +kernel
theorem d_C_init_97 : decode b_C_init 97 = .ok (.aload_n 0, 1) := by decide +kernel
theorem d_C_init_98 : decode b_C_init 98 = .ok (.new 43, 3) := by decide +kernel
theorem d_C_init_101 : decode b_C_init 101 = .ok (.dup, 1) := by decide +kernel
theorem d_C_init_102 : decode b_C_init 102 = .ok (.aload_n 0, 1) := by decide +kernel
theorem d_C_init_103 : decode b_C_init 103 = .ok (.getfield 15, 3) := by decide +kernel
theorem d_C_init_106 : decode b_C_init 106 = .ok (.invokespecial 45, 3) := by decide +kernel
theorem d_C_init_109 : decode b_C_init 109 = .ok (.putfield 48, 3) := by decide +kernel
theorem d_C_init_112 : decode b_C_init 112 = .ok (.aload_n 0, 1) := by decide +kernel
theorem d_C_init_113 : decode b_C_init 113 = .ok (.new 52, 3) := by decide +kernel
theorem d_C_init_116 : decode b_C_init 116 = .ok (.dup, 1) := by decide +kernel
theorem d_C_init_117 : decode b_C_init 117 = .ok (.aload_n 1, 1) := by decide +kernel
theorem d_C_init_118 : decode b_C_init 118 = .ok (.aload_n 0, 1) := by decide +kernel
theorem d_C_init_119 : decode b_C_init 119 = .ok (.getfield 48, 3) := by decide +kernel
theorem d_C_init_122 : decode b_C_init 122 = .ok (.invokespecial 54, 3) := by decide +kernel
theorem d_C_init_125 : decode b_C_init 125 = .ok (.putfield 57, 3) := by decide +kernel
theorem d_C_init_128 : decode b_C_init 128 = .ok (.return_, 1) := by decide +kernel
theorem d_MUnit_init_0 : decode b_MUnit_init 0 = .ok (.aload_n 0, 1) := by decide +kernel
theorem d_MUnit_init_1 : decode b_MUnit_init 1 = .ok (.invokespecial 3, 3) := by decide +kernel
theorem d_MUnit_init_4 : decode b_MUnit_init 4 = .ok (.aload_n 0, 1) := by decide +kernel
theorem d_MUnit_init_5 : decode b_MUnit_init 5 = .ok (.sipush 4000, 3) := by decide +kernel
theorem d_MUnit_init_8 : decode b_MUnit_init 8 = .ok (.newarray .byte, 2) := by decide +kernel
theorem d_MUnit_init_10 : decode b_MUnit_init 10 = .ok (.putfield 9, 3) := by decide +kernel
theorem d_MUnit_init_13 : decode b_MUnit_init 13 = .ok (.aload_n 0, 1) := by decide +kernel
theorem d_MUnit_init_14 : decode b_MUnit_init 14 = .ok (.bipush 40, 2) := by decide +kernel
theorem d_MUnit_init_16 : decode b_MUnit_init 16 = .ok (.newarray .int, 2) := by decide +kernel
theorem d_MUnit_init_18 : decode b_MUnit_init 18 = .ok (.putfield 15, 3) := by decide +kernel
theorem d_MUnit_init_21 : decode b_MUnit_init 21 = .ok (.aload_n 0, 1) := by decide +kernel
theorem d_MUnit_init_22 : decode b_MUnit_init 22 = .ok (.sipush 240, 3) := by decide +kernel
theorem d_MUnit_init_25 : decode b_MUnit_init 25 = .ok (.newarray .int, 2) := by decide +kernel
theorem d_MUnit_init_27 : decode b_MUnit_init 27 = .ok (.putfield 19, 3) := by decide +kernel
theorem d_MUnit_init_30 : decode b_MUnit_init 30 = .ok (.aload_n 0, 1) := by decide +kernel
theorem d_MUnit_init_31 : decode b_MUnit_init 31 = .ok (.bipush 40, 2) := by decide +kernel
theorem d_MUnit_init_33 : decode b_MUnit_init 33 = .ok (.newarray .int, 2) := by decide +kernel
theorem d_MUnit_init_35 : decode b_MUnit_init 35 = .ok (.putfield 22, 3) := by decide +kernel
theorem d_MUnit_init_38 : decode b_MUnit_init 38 = .ok (.aload_n 0, 1) := by decide +kernel
theorem d_MUnit_init_39 : decode b_MUnit_init 39 = .ok (.bipush 30, 2) := by decide +kernel
theorem d_MUnit_init_41 : decode b_MUnit_init 41 = .ok (.newarray .int, 2) := by decide +kernel
theorem d_MUnit_init_43 : decode b_MUnit_init 43 = .ok (.putfield 25, 3) := by decide +kernel
theorem d_MUnit_init_46 : decode b_MUnit_init 46 = .ok (.aload_n 0, 1) := by decide +kernel
theorem d_MUnit_init_47 : decode b_MUnit_init 47 = .ok (.bipush 30, 2) := by decide +kernel
theorem d_MUnit_init_49 : decode b_MUnit_init 49 = .ok (.newarray .int, 2) := by decide +kernel
theorem d_MUnit_init_51 : decode b_MUnit_init 51 = .ok (.putfield 28, 3) := by decide +kernel
theorem d_MUnit_init_54 : decode b_MUnit_init 54 = .ok (.aload_n 0, 1) := by decide +kernel
theorem d_MUnit_init_55 : decode b_MUnit_init 55 = .ok (.bipush 30, 2) := by decide +kernel
theorem d_MUnit_init_57 : decode b_MUnit_init 57 = .ok (.newarray .int, 2) := by decide +kernel
theorem d_MUnit_init_59 : decode b_MUnit_init 59 = .ok (.putfield 31, 3) := by decide +kernel
theorem d_MUnit_init_62 : decode b_MUnit_init 62 = .ok (.aload_n 0, 1) := by decide +kernel
theorem d_MUnit_init_63 : decode b_MUnit_init 63 = .ok (.bipush 30, 2) := by decide +kernel
theorem d_MUnit_init_65 : decode b_MUnit_init 65 = .ok (.newarray .int, 2) := by decide +kernel
theorem d_MUnit_init_67 : decode b_MUnit_init 67 = .ok (.putfield 34, 3) := by decide +kernel
theorem d_MUnit_init_70 : decode b_MUnit_init 70 = .ok (.aload_n 0, 1) := by decide +kernel
theorem d_MUnit_init_71 : decode b_MUnit_init 71 = .ok (.bipush 30, 2) := by decide +kernel
theorem d_MUnit_init_73 : decode b_MUnit_init 73 = .ok (.newarray .int, 2) := by decide +kernel
theorem d_MUnit_init_75 : decode b_MUnit_init 75 = .ok (.putfield 37, 3) := by decide +kernel
theorem d_MUnit_init_78 : decode b_MUnit_init 78 = .ok (.aload_n 0, 1) := by decide +kernel
theorem d_MUnit_init_79 : decode b_MUnit_init 79 = .ok (.bipush 30, 2) := by decide +kernel
theorem d_MUnit_init_81 : decode b_MUnit_init 81 = .ok (.newarray .int, 2) := by decide +kernel
theorem d_MUnit_init_83 : decode b_MUnit_init 83 = .ok (.putfield 40, 3) := by decide +kernel
theorem d_MUnit_init_86 : decode b_MUnit_init 86 = .ok (.aload_n 0, 1) := by decide +kernel
theorem d_MUnit_init_87 : decode b_MUnit_init 87 = .ok (.bipush 30, 2) := by decide +kernel
theorem d_MUnit_init_89 : decode b_MUnit_init 89 = .ok (.newarray .long, 2) := by decide +kernel
theorem d_MUnit_init_91 : decode b_MUnit_init 91 = .ok (.putfield 43, 3) := by decide +kernel
theorem d_MUnit_init_94 : decode b_MUnit_init 94 = .ok (.aload_n 0, 1) := by decide +kernel
theorem d_MUnit_init_95 : decode b_MUnit_init 95 = .ok (.bipush 60, 2) := by decide +kernel
theorem d_MUnit_init_97 : decode b_MUnit_init 97 = .ok (.newarray .int, 2) := by decide +kernel
theorem d_MUnit_init_99 : decode b_MUnit_init 99 = .ok (.putfield 47, 3) := by decide +kernel
theorem d_MUnit_init_102 : decode b_MUnit_init 102 = .ok (.aload_n 0, 1) := by decide +kernel
theorem d_MUnit_init_103 : decode b_MUnit_init 103 = .ok (.bipush 60, 2) := by decide +kernel
theorem d_MUnit_init_105 : decode b_MUnit_init 105 = .ok (.newarray .int, 2) := by decide +kernel
theorem d_MUnit_init_107 : decode b_MUnit_init 107 = .ok (.putfield 50, 3) := by decide +kernel
theorem d_MUnit_init_110 : decode b_MUnit_init 110 = .ok (.aload_n 0, 1) := by decide +kernel
theorem d_MUnit_init_111 : decode b_MUnit_init 111 = .ok (.bipush 30, 2) := by decide +kernel
theorem d_MUnit_init_113 : decode b_MUnit_init 113 = .ok (.newarray .int, 2) := by decide +kernel
theorem d_MUnit_init_115 : decode b_MUnit_init 115 = .ok (.putfield 53, 3) := by decide +kernel
theorem d_MUnit_init_118 : decode b_MUnit_init 118 = .ok (.aload_n 0, 1) := by decide +kernel
theorem d_MUnit_init_119 : decode b_MUnit_init 119 = .ok (.bipush 30, 2) := by decide +kernel
theorem d_MUnit_init_121 : decode b_MUnit_init 121 = .ok (.newarray .int, 2) := by decide +kernel
theorem d_MUnit_init_123 : decode b_MUnit_init 123 = .ok (.putfield 56, 3) := by decide +kernel
theorem d_MUnit_init_126 : decode b_MUnit_init 126 = .ok (.aload_n 0, 1) := by decide +kernel
theorem d_MUnit_init_127 : decode b_MUnit_init 127 = .ok (.bipush 30, 2) := by decide +kernel
theorem d_MUnit_init_129 : decode b_MUnit_init 129 = .ok (.newarray .int, 2) := by decide +kernel
theorem d_MUnit_init_131 : decode b_MUnit_init 131 = .ok (.putfield 59, 3) := by decide +kernel
theorem d_MUnit_init_134 : decode b_MUnit_init 134 = .ok (.aload_n 0, 1) := by decide +kernel
theorem d_MUnit_init_135 : decode b_MUnit_init 135 = .ok (.bipush 30, 2) := by decide +kernel
theorem d_MUnit_init_137 : decode b_MUnit_init 137 = .ok (.newarray .boolean, 2) := by decide +kernel
theorem d_MUnit_init_139 : decode b_MUnit_init 139 = .ok (.putfield 62, 3) := by decide +kernel
theorem d_MUnit_init_142 : decode b_MUnit_init 142 = .ok (.aload_n 0, 1) := by decide +kernel
theorem d_MUnit_init_143 : decode b_MUnit_init 143 = .ok (.bipush 30, 2) := by decide +kernel
theorem d_MUnit_init_145 : decode b_MUnit_init 145 = .ok (.newarray .long, 2) := by decide +kernel
theorem d_MUnit_init_147 : decode b_MUnit_init 147 = .ok (.putfield 66, 3) := by decide +kernel
theorem d_MUnit_init_150 : decode b_MUnit_init 150 = .ok (.aload_n 0, 1) := by decide +kernel
theorem d_MUnit_init_151 : decode b_MUnit_init 151 = .ok (.bipush 40, 2) := by decide +kernel
theorem d_MUnit_init_153 : decode b_MUnit_init 153 = .ok (.newarray .int, 2) := by decide +kernel
theorem d_MUnit_init_155 : decode b_MUnit_init 155 = .ok (.putfield 69, 3) := by decide +kernel
theorem d_MUnit_init_158 : decode b_MUnit_init 158 = .ok (.aload_n 0, 1) := by decide +kernel
theorem d_MUnit_init_159 : decode b_MUnit_init 159 = .ok (.bipush 40, 2) := by decide +kernel
theorem d_MUnit_init_161 : decode b_MUnit_init 161 = .ok (.newarray .int, 2) := by decide +kernel
theorem d_MUnit_init_163 : decode b_MUnit_init 163 = .ok (.putfield 72, 3) := by decide +kernel
theorem d_MUnit_init_166 : decode b_MUnit_init 166 = .ok (.aload_n 0, 1) := by decide +kernel
theorem d_MUnit_init_167 : decode b_MUnit_init 167 = .ok (.bipush 40, 2) := by decide +kernel
theorem d_MUnit_init_169 : decode b_MUnit_init 169 = .ok (.newarray .int, 2) := by decide +kernel
theorem d_MUnit_init_171 : decode b_MUnit_init 171 = .ok (.putfield 75, 3) := by decide +kernel
theorem d_MUnit_init_174 : decode b_MUnit_init 174 = .ok (.aload_n 0, 1) := by decide +kernel
theorem d_MUnit_init_175 : decode b_MUnit_init 175 = .ok (.bipush 40, 2) := by decide +kernel
theorem d_MUnit_init_177 : decode b_MUnit_init 177 = .ok (.newarray .int, 2) := by decide +kernel
theorem d_MUnit_init_179 : decode b_MUnit_init 179 = .ok (.putfield 78, 3) := by decide +kernel
theorem d_MUnit_init_182 : decode b_MUnit_init 182 = .ok (.aload_n 0, 1) := by decide +kernel
theorem d_MUnit_init_183 : decode b_MUnit_init 183 = .ok (.bipush 20, 2) := by decide +kernel
theorem d_MUnit_init_185 : decode b_MUnit_init 185 = .ok (.newarray .int, 2) := by decide +kernel
theorem d_MUnit_init_187 : decode b_MUnit_init 187 = .ok (.putfield 81, 3) := by decide +kernel
theorem d_MUnit_init_190 : decode b_MUnit_init 190 = .ok (.aload_n 0, 1) := by decide +kernel
theorem d_MUnit_init_191 : decode b_MUnit_init 191 = .ok (.bipush 20, 2) := by decide +kernel
theorem d_MUnit_init_193 : decode b_MUnit_init 193 = .ok (.newarray .int, 2) := by decide +kernel
theorem d_MUnit_init_195 : decode b_MUnit_init 195 = .ok (.putfield 84, 3) := by decide +kernel
theorem d_MUnit_init_198 : decode b_MUnit_init 198 = .ok (.aload_n 0, 1) := by decide +kernel
theorem d_MUnit_init_199 : decode b_MUnit_init 199 = .ok (.bipush 20, 2) := by decide +kernel
theorem d_MUnit_init_201 : decode b_MUnit_init 201 = .ok (.newarray .int, 2) := by decide +kernel
theorem d_MUnit_init_203 : decode b_MUnit_init 203 = .ok (.putfield 87, 3) := by decide +kernel
theorem d_MUnit_init_206 : decode b_MUnit_init 206 = .ok (.aload_n 0, 1) := by decide +kernel
theorem d_MUnit_init_207 : decode b_MUnit_init 207 = .ok (.bipush 20, 2) := by decide +kernel
theorem d_MUnit_init_209 : decode b_MUnit_init 209 = .ok (.newarray .int, 2) := by decide +kernel
theorem d_MUnit_init_211 : decode b_MUnit_init 211 = .ok (.putfield 90, 3) := by decide +kernel
theorem d_MUnit_init_214 : decode b_MUnit_init 214 = .ok (.aload_n 0, 1) := by decide +kernel
theorem d_MUnit_init_215 : decode b_MUnit_init 215 = .ok (.bipush 20, 2) := by decide +kernel
theorem d_MUnit_init_217 : decode b_MUnit_init 217 = .ok (.newarray .int, 2) := by decide +kernel
theorem d_MUnit_init_219 : decode b_MUnit_init 219 = .ok (.putfield 93, 3) := by decide +kernel
theorem d_MUnit_init_222 : decode b_MUnit_init 222 = .ok (.aload_n 0, 1) := by decide +kernel
theorem d_MUnit_init_223 : decode b_MUnit_init 223 = .ok (.bipush 20, 2) := by decide +kernel
theorem d_MUnit_init_225 : decode b_MUnit_init 225 = .ok (.newarray .int, 2) := by decide +kernel
theorem d_MUnit_init_227 : decode b_MUnit_init 227 = .ok (.putfield 96, 3) := by decide +kernel
theorem d_MUnit_init_230 : decode b_MUnit_init 230 = .ok (.aload_n 0, 1) := by decide +kernel
theorem d_MUnit_init_231 : decode b_MUnit_init 231 = .ok (.bipush 20, 2) := by decide +kernel
theorem d_MUnit_init_233 : decode b_MUnit_init 233 = .ok (.newarray .int, 2) := by decide +kernel
theorem d_MUnit_init_235 : decode b_MUnit_init 235 = .ok (.putfield 99, 3) := by decide +kernel
theorem d_MUnit_init_238 : decode b_MUnit_init 238 = .ok (.aload_n 0, 1) := by decide +kernel
theorem d_MUnit_init_239 : decode b_MUnit_init 239 = .ok (.bipush 20, 2) := by decide +kernel
theorem d_MUnit_init_241 : decode b_MUnit_init 241 = .ok (.newarray .int, 2) := by decide +kernel
theorem d_MUnit_init_243 : decode b_MUnit_init 243 = .ok (.putfield 102, 3) := by decide +kernel
theorem d_MUnit_init_246 : decode b_MUnit_init 246 = .ok (.aload_n 0, 1) := by decide +kernel
theorem d_MUnit_init_247 : decode b_MUnit_init 247 = .ok (.bipush 20, 2) := by decide +kernel
theorem d_MUnit_init_249 : decode b_MUnit_init 249 = .ok (.newarray .long, 2) := by decide +kernel
theorem d_MUnit_init_251 : decode b_MUnit_init 251 = .ok (.putfield 105, 3) := by decide +kernel
theorem d_MUnit_init_254 : decode b_MUnit_init 254 = .ok (.aload_n 0, 1) := by decide +kernel
theorem d_MUnit_init_255 : decode b_MUnit_init 255 = .ok (.bipush 20, 2) := by decide +kernel
theorem d_MUnit_init_257 : decode b_MUnit_init 257 = .ok (.newarray .long, 2) := by decide +kernel
theorem d_MUnit_init_259 : decode b_MUnit_init 259 = .ok (.putfield 108, 3) := by decide +kernel
theorem d_MUnit_init_262 : decode b_MUnit_init 262 = .ok (.aload_n 0, 1) := by decide +kernel
theorem d_MUnit_init_263 : decode b_MUnit_init 263 = .ok (.bipush 60, 2) := by decide +kernel
theorem d_MUnit_init_265 : decode b_MUnit_init 265 = .ok (.newarray .int, 2) := by decide +kernel
theorem d_MUnit_init_267 : decode b_MUnit_init 267 = .ok (.putfield 111, 3) := by decide +kernel
theorem d_MUnit_init_270 : decode b_MUnit_init 270 = .ok (.aload_n 0, 1) := by decide +kernel
theorem d_MUnit_init_271 : decode b_MUnit_init 271 = .ok (.bipush 60, 2) := by decide +kernel
theorem d_MUnit_init_273 : decode b_MUnit_init 273 = .ok (.newarray .int, 2) := by decide +kernel
theorem d_MUnit_init_275 : decode b_MUnit_init 275 = .ok (.putfield 114, 3) := by decide +kernel
theorem d_MUnit_init_278 : decode b_MUnit_init 278 = .ok (.aload_n 0, 1) := by decide +kernel
theorem d_MUnit_init_279 : decode b_MUnit_init 279 = .ok (.bipush 60, 2) := by decide +kernel
theorem d_MUnit_init_281 : decode b_MUnit_init 281 = .ok (.newarray .int, 2) := by decide +kernel
theorem d_MUnit_init_283 : decode b_MUnit_init 283 = .ok (.putfield 117, 3) := by decide +kernel
theorem d_MUnit_init_286 : decode b_MUnit_init 286 = .ok (.aload_n 0, 1) := by decide +kernel
theorem d_MUnit_init_287 : decode b_MUnit_init 287 = .ok (.sipush 1800, 3) := by decide +kernel
theorem d_MUnit_init_290 : decode b_MUnit_init 290 = .ok (.newarray .int, 2) := by decide +kernel
theorem d_MUnit_init_292 : decode b_MUnit_init 292 = .ok (.putfield 120, 3) := by decide +kernel
theorem d_MUnit_init_295 : decode b_MUnit_init 295 = .ok (.aload_n 0, 1) := by decide +kernel
theorem d_MUnit_init_296 : decode b_MUnit_init 296 = .ok (.sipush 4000, 3) := by decide +kernel
theorem d_MUnit_init_299 : decode b_MUnit_init 299 = .ok (.newarray .int, 2) := by decide +kernel
theorem d_MUnit_init_301 : decode b_MUnit_init 301 = .ok (.putfield 123, 3) := by decide +kernel
theorem d_MUnit_init_304 : decode b_MUnit_init 304 = .ok (.aload_n 0, 1) := by decide +kernel
theorem d_MUnit_init_305 : decode b_MUnit_init 305 = .ok (.sipush 4000, 3) := by decide +kernel
theorem d_MUnit_init_308 : decode b_MUnit_init 308 = .ok (.newarray .int, 2) := by decide +kernel
theorem d_MUnit_init_310 : decode b_MUnit_init 310 = .ok (.putfield 126, 3) := by decide +kernel
theorem d_MUnit_init_313 : decode b_MUnit_init 313 = .ok (.return_, 1) := by decide +kernel
theorem d_M_init_0 : decode b_M_init 0 = .ok (.aload_n 0, 1) := by decide +kernel
theorem d_M_init_1 : decode b_M_init 1 = .ok (.invokespecial 1, 3) := by decide +kernel
theorem d_M_init_4 : decode b_M_init 4 = .ok (.aload_n 0, 1) := by decide +kernel
theorem d_M_init_5 : decode b_M_init 5 = .ok (.sipush 4000, 3) := by decide +kernel
theorem d_M_init_8 : decode b_M_init 8 = .ok (.newarray .byte, 2) := by decide +kernel
theorem d_M_init_10 : decode b_M_init 10 = .ok (.putfield 9, 3) := by decide +kernel
theorem d_M_init_13 : decode b_M_init 13 = .ok (.aload_n 0, 1) := by decide +kernel
theorem d_M_init_14 : decode b_M_init 14 = .ok (.bipush 6, 2) := by decide +kernel
theorem d_M_init_16 : decode b_M_init 16 = .ok (.anewarray 13, 3) := by decide +kernel
theorem d_M_init_19 : decode b_M_init 19 = .ok (.dup, 1) := by decide +kernel
theorem d_M_init_20 : decode b_M_init 20 = .ok (.iconst 0, 1) := by decide +kernel
theorem d_M_init_21 : decode b_M_init 21 = .ok (.new 13, 3) := by decide +kernel
theorem d_M_init_24 : decode b_M_init 24 = .ok (.dup, 1) := by decide +kernel
theorem d_M_init_25 : decode b_M_init 25 = .ok (.invokespecial 15, 3) := by decide +kernel
theorem d_M_init_28 : decode b_M_init 28 = .ok (.aastore, 1) := by decide +kernel
theorem d_M_init_29 : decode b_M_init 29 = .ok (.dup, 1) := by decide +kernel
theorem d_M_init_30 : decode b_M_init 30 = .ok (.iconst 1, 1) := by decide +kernel
theorem d_M_init_31 : decode b_M_init 31 = .ok (.new 13, 3) := by decide +kernel
theorem d_M_init_34 : decode b_M_init 34 = .ok (.dup, 1) := by decide +kernel
theorem d_M_init_35 : decode b_M_init 35 = .ok (.invokespecial 15, 3) := by decide +kernel
theorem d_M_init_38 : decode b_M_init 38 = .ok (.aastore, 1) := by decide +kernel
theorem d_M_init_39 : decode b_M_init 39 = .ok (.dup, 1) := by decide +kernel
theorem d_M_init_40 : decode b_M_init 40 = .ok (.iconst 2, 1) := by decide +kernel
theorem d_M_init_41 : decode b_M_init 41 = .ok (.new 13, 3) := by decide +kernel
theorem d_M_init_44 : decode b_M_init 44 = .ok (.dup, 1) := by decide +kernel
theorem d_M_init_45 : decode b_M_init 45 = .ok (.invokespecial 15, 3) := by decide +kernel
theorem d_M_init_48 : decode b_M_init 48 = .ok (.aastore, 1) := by decide +kernel
theorem d_M_init_49 : decode b_M_init 49 = .ok (.dup, 1) := by decide +kernel
theorem d_M_init_50 : decode b_M_init 50 = .ok (.iconst 3, 1) := by decide +kernel
theorem d_M_init_51 : decode b_M_init 51 = .ok (.new 13, 3) := by decide +kernel
theorem d_M_init_54 : decode b_M_init 54 = .ok (.dup, 1) := by decide +kernel
theorem d_M_init_55 : decode b_M_init 55 = .ok (.invokespecial 15, 3) := by decide +kernel
theorem d_M_init_58 : decode b_M_init 58 = .ok (.aastore, 1) := by decide +kernel
theorem d_M_init_59 : decode b_M_init 59 = .ok (.dup, 1) := by decide +kernel
theorem d_M_init_60 : decode b_M_init 60 = .ok (.iconst 4, 1) := by decide +kernel
theorem d_M_init_61 : decode b_M_init 61 = .ok (.new 13, 3) := by decide +kernel
theorem d_M_init_64 : decode b_M_init 64 = .ok (.dup, 1) := by decide +kernel
theorem d_M_init_65 : decode b_M_init 65 = .ok (.invokespecial 15, 3) := by decide +kernel
theorem d_M_init_68 : decode b_M_init 68 = .ok (.aastore, 1) := by decide +kernel
theorem d_M_init_69 : decode b_M_init 69 = .ok (.dup, 1) := by decide +kernel
theorem d_M_init_70 : decode b_M_init 70 = .ok (.iconst 5, 1) := by decide +kernel
theorem d_M_init_71 : decode b_M_init 71 = .ok (.new 13, 3) := by decide +kernel
theorem d_M_init_74 : decode b_M_init 74 = .ok (.dup, 1) := by decide +kernel
theorem d_M_init_75 : decode b_M_init 75 = .ok (.invokespecial 15, 3) := by decide +kernel
theorem d_M_init_78 : decode b_M_init 78 = .ok (.aastore, 1) := by decide +kernel
theorem d_M_init_79 : decode b_M_init 79 = .ok (.putfield 16, 3) := by decide +kernel
theorem d_M_init_82 : decode b_M_init 82 = .ok (.aload_n 0, 1) := by decide +kernel
theorem d_M_init_83 : decode b_M_init 83 = .ok (.sipush 4001, 3) := by decide +kernel
theorem d_M_init_86 : decode b_M_init 86 = .ok (.newarray .int, 2) := by decide +kernel
theorem d_M_init_88 : decode b_M_init 88 = .ok (.putfield 20, 3) := by decide +kernel
theorem d_M_init_91 : decode b_M_init 91 = .ok (.aload_n 0, 1) := by decide +kernel
theorem d_M_init_92 : decode b_M_init 92 = .ok (.sipush 4001, 3) := by decide +kernel
theorem d_M_init_95 : decode b_M_init 95 = .ok (.newarray .int, 2) := by decide +kernel
theorem d_M_init_97 : decode b_M_init 97 = .ok (.putfield 24, 3) := by decide +kernel
theorem d_M_init_100 : decode b_M_init 100 = .ok (.aload_n 0, 1) := by decide +kernel
theorem d_M_init_101 : decode b_M_init 101 = .ok (.sipush 28000, 3) := by decide +kernel
theorem d_M_init_104 : decode b_M_init 104 = .ok (.newarray .int, 2) := by decide +kernel
theorem d_M_init_106 : decode b_M_init 106 = .ok (.putfield 27, 3) := by decide +kernel
theorem d_M_init_109 : decode b_M_init 109 = .ok (.aload_n 0, 1) := by decide +kernel
theorem d_M_init_110 : decode b_M_init 110 = .ok (.bipush 32, 2) := by decide +kernel
theorem d_M_init_112 : decode b_M_init 112 = .ok (.newarray .int, 2) := by decide +kernel
theorem d_M_init_114 : decode b_M_init 114 = .ok (.putfield 30, 3) := by decide +kernel
theorem d_M_init_117 : decode b_M_init 117 = .ok (.aload_n 0, 1) := by decide +kernel
theorem d_M_init_118 : decode b_M_init 118 = .ok (.bipush 32, 2) := by decide +kernel
theorem d_M_init_120 : decode b_M_init 120 = .ok (.newarray .int, 2) := by decide +kernel
theorem d_M_init_122 : decode b_M_init 122 = .ok (.putfield 33, 3) := by decide +kernel
theorem d_M_init_125 : decode b_M_init 125 = .ok (.aload_n 0, 1) := by decide +kernel
theorem d_M_init_126 : decode b_M_init 126 = .ok (.bipush 32, 2) := by decide +kernel
theorem d_M_init_128 : decode b_M_init 128 = .ok (.newarray .int, 2) := by decide +kernel
theorem d_M_init_130 : decode b_M_init 130 = .ok (.putfield 36, 3) := by decide +kernel
theorem d_M_init_133 : decode b_M_init 133 = .ok (.aload_n 0, 1) := by decide +kernel
theorem d_M_init_134 : decode b_M_init 134 = .ok (.bipush 32, 2) := by decide +kernel
theorem d_M_init_136 : decode b_M_init 136 = .ok (.newarray .int, 2) := by decide +kernel
theorem d_M_init_138 : decode b_M_init 138 = .ok (.putfield 39, 3) := by decide +kernel
theorem d_M_init_141 : decode b_M_init 141 = .ok (.aload_n 0, 1) := by decide +kernel
theorem d_M_init_142 : decode b_M_init 142 = .ok (.bipush 32, 2) := by decide +kernel
theorem d_M_init_144 : decode b_M_init 144 = .ok (.newarray .boolean, 2) := by decide +kernel
theorem d_M_init_146 : decode b_M_init 146 = .ok (.putfield 42, 3) := by decide +kernel
theorem d_M_init_149 : decode b_M_init 149 = .ok (.aload_n 0, 1) := by decide +kernel
theorem d_M_init_150 : decode b_M_init 150 = .ok (.sipush 180, 3) := by decide +kernel
theorem d_M_init_153 : decode b_M_init 153 = .ok (.newarray .int, 2) := by decide +kernel
theorem d_M_init_155 : decode b_M_init 155 = .ok (.putfield 46, 3) := by decide +kernel
theorem d_M_init_158 : decode b_M_init 158 = .ok (.aload_n 0, 1) := by decide +kernel
theorem d_M_init_159 : decode b_M_init 159 = .ok (.sipush 180, 3) := by decide +kernel
theorem d_M_init_162 : decode b_M_init 162 = .ok (.newarray .long, 2) := by decide +kernel
theorem d_M_init_164 : decode b_M_init 164 = .ok (.putfield 49, 3) := by decide +kernel
theorem d_M_init_167 : decode b_M_init 167 = .ok (.aload_n 0, 1) := by decide +kernel
theorem d_M_init_168 : decode b_M_init 168 = .ok (.sipush 24000, 3) := by decide +kernel
theorem d_M_init_171 : decode b_M_init 171 = .ok (.newarray .long, 2) := by decide +kernel
theorem d_M_init_173 : decode b_M_init 173 = .ok (.putfield 53, 3) := by decide +kernel
theorem d_M_init_176 : decode b_M_init 176 = .ok (.aload_n 0, 1) := by decide +kernel
theorem d_M_init_177 : decode b_M_init 177 = .ok (.bipush 6, 2) := by decide +kernel
theorem d_M_init_179 : decode b_M_init 179 = .ok (.newarray .long, 2) := by decide +kernel
theorem d_M_init_181 : decode b_M_init 181 = .ok (.putfield 56, 3) := by decide +kernel
theorem d_M_init_184 : decode b_M_init 184 = .ok (.aload_n 0, 1) := by decide +kernel
theorem d_M_init_185 : decode b_M_init 185 = .ok (.sipush 2000, 3) := by decide +kernel
theorem d_M_init_188 : decode b_M_init 188 = .ok (.newarray .long, 2) := by decide +kernel
theorem d_M_init_190 : decode b_M_init 190 = .ok (.putfield 59, 3) := by decide +kernel
theorem d_M_init_193 : decode b_M_init 193 = .ok (.aload_n 0, 1) := by decide +kernel
theorem d_M_init_194 : decode b_M_init 194 = .ok (.ldc 62, 2) := by decide +kernel
theorem d_M_init_196 : decode b_M_init 196 = .ok (.newarray .byte, 2) := by decide +kernel
theorem d_M_init_198 : decode b_M_init 198 = .ok (.putfield 63, 3) := by decide +kernel
theorem d_M_init_201 : decode b_M_init 201 = .ok (.aload_n 0, 1) := by decide +kernel
theorem d_M_init_202 : decode b_M_init 202 = .ok (.sipush 200, 3) := by decide +kernel
theorem d_M_init_205 : decode b_M_init 205 = .ok (.newarray .int, 2) := by decide +kernel
theorem d_M_init_207 : decode b_M_init 207 = .ok (.putfield 66, 3) := by decide +kernel
theorem d_M_init_210 : decode b_M_init 210 = .ok (.aload_n 0, 1) := by decide +kernel
theorem d_M_init_211 : decode b_M_init 211 = .ok (.sipush 3200, 3) := by decide +kernel
theorem d_M_init_214 : decode b_M_init 214 = .ok (.newarray .int, 2) := by decide +kernel
theorem d_M_init_216 : decode b_M_init 216 = .ok (.putfield 69, 3) := by decide +kernel
theorem d_M_init_219 : decode b_M_init 219 = .ok (.aload_n 0, 1) := by decide +kernel
theorem d_M_init_220 : decode b_M_init 220 = .ok (.sipush 3200, 3) := by decide +kernel
theorem d_M_init_223 : decode b_M_init 223 = .ok (.newarray .int, 2) := by decide +kernel
theorem d_M_init_225 : decode b_M_init 225 = .ok (.putfield 72, 3) := by decide +kernel
theorem d_M_init_228 : decode b_M_init 228 = .ok (.aload_n 0, 1) := by decide +kernel
theorem d_M_init_229 : decode b_M_init 229 = .ok (.sipush 3200, 3) := by decide +kernel
theorem d_M_init_232 : decode b_M_init 232 = .ok (.newarray .int, 2) := by decide +kernel
theorem d_M_init_234 : decode b_M_init 234 = .ok (.putfield 75, 3) := by decide +kernel
theorem d_M_init_237 : decode b_M_init 237 = .ok (.aload_n 0, 1) := by decide +kernel
theorem d_M_init_238 : decode b_M_init 238 = .ok (.sipush 3200, 3) := by decide +kernel
theorem d_M_init_241 : decode b_M_init 241 = .ok (.newarray .int, 2) := by decide +kernel
theorem d_M_init_243 : decode b_M_init 243 = .ok (.putfield 78, 3) := by decide +kernel
theorem d_M_init_246 : decode b_M_init 246 = .ok (.return_, 1) := by decide +kernel
theorem d_C_feedWord_0 : decode b_C_feedWord 0 = .ok (.bipush 24, 2) := by decide +kernel
theorem d_C_feedWord_2 : decode b_C_feedWord 2 = .ok (.istore_n 2, 1) := by decide +kernel
theorem d_C_feedWord_3 : decode b_C_feedWord 3 = .ok (.iload_n 2, 1) := by decide +kernel
theorem d_C_feedWord_4 : decode b_C_feedWord 4 = .ok (.ifCond .lt 42, 3) := by decide +kernel
theorem d_C_feedWord_7 : decode b_C_feedWord 7 = .ok (.aload_n 0, 1) := by decide +kernel
theorem d_C_feedWord_8 : decode b_C_feedWord 8 = .ok (.getfield 61, 3) := by decide +kernel
theorem d_C_feedWord_11 : decode b_C_feedWord 11 = .ok (.sipush 4000, 3) := by decide +kernel
theorem d_C_feedWord_14 : decode b_C_feedWord 14 = .ok (.if_icmp .ge 32, 3) := by decide +kernel
theorem d_C_feedWord_17 : decode b_C_feedWord 17 = .ok (.aload_n 0, 1) := by decide +kernel
theorem d_C_feedWord_18 : decode b_C_feedWord 18 = .ok (.getfield 9, 3) := by decide +kernel
theorem d_C_feedWord_21 : decode b_C_feedWord 21 = .ok (.aload_n 0, 1) := by decide +kernel
theorem d_C_feedWord_22 : decode b_C_feedWord 22 = .ok (.getfield 61, 3) := by decide +kernel
theorem d_C_feedWord_25 : decode b_C_feedWord 25 = .ok (.iload_n 1, 1) := by decide +kernel
theorem d_C_feedWord_26 : decode b_C_feedWord 26 = .ok (.iload_n 2, 1) := by decide +kernel
theorem d_C_feedWord_27 : decode b_C_feedWord 27 = .ok (.ishr, 1) := by decide +kernel
theorem d_C_feedWord_28 : decode b_C_feedWord 28 = .ok (.i2b, 1) := by decide +kernel
theorem d_C_feedWord_29 : decode b_C_feedWord 29 = .ok (.bastore, 1) := by decide +kernel
theorem d_C_feedWord_30 : decode b_C_feedWord 30 = .ok (.aload_n 0, 1) := by decide +kernel
theorem d_C_feedWord_31 : decode b_C_feedWord 31 = .ok (.dup, 1) := by decide +kernel
theorem d_C_feedWord_32 : decode b_C_feedWord 32 = .ok (.getfield 61, 3) := by decide +kernel
theorem d_C_feedWord_35 : decode b_C_feedWord 35 = .ok (.iconst 1, 1) := by decide +kernel
theorem d_C_feedWord_36 : decode b_C_feedWord 36 = .ok (.iadd, 1) := by decide +kernel
theorem d_C_feedWord_37 : decode b_C_feedWord 37 = .ok (.putfield 61, 3) := by decide +kernel
theorem d_C_feedWord_40 : decode b_C_feedWord 40 = .ok (.iinc 2 (-8), 3) := by decide +kernel
theorem d_C_feedWord_43 : decode b_C_feedWord 43 = .ok (.goto (-40), 3) := by decide +kernel
theorem d_C_feedWord_46 : decode b_C_feedWord 46 = .ok (.return_, 1) := by decide +kernel
theorem d_C_feed_0 : decode b_C_feed 0 = .ok (.aload_n 0, 1) := by decide +kernel
theorem d_C_feed_1 : decode b_C_feed 1 = .ok (.getfield 61, 3) := by decide +kernel
theorem d_C_feed_4 : decode b_C_feed 4 = .ok (.sipush 3980, 3) := by decide +kernel
theorem d_C_feed_7 : decode b_C_feed 7 = .ok (.if_icmp .le 13, 3) := by decide +kernel
theorem d_C_feed_20 : decode b_C_feed 20 = .ok (.aload_n 0, 1) := by decide +kernel
theorem d_C_feed_21 : decode b_C_feed 21 = .ok (.iload_n 1, 1) := by decide +kernel
theorem d_C_feed_22 : decode b_C_feed 22 = .ok (.invokevirtual 72, 3) := by decide +kernel
theorem d_C_feed_25 : decode b_C_feed 25 = .ok (.aload_n 0, 1) := by decide +kernel
theorem d_C_feed_26 : decode b_C_feed 26 = .ok (.iload_n 2, 1) := by decide +kernel
theorem d_C_feed_27 : decode b_C_feed 27 = .ok (.invokevirtual 72, 3) := by decide +kernel
theorem d_C_feed_30 : decode b_C_feed 30 = .ok (.aload_n 0, 1) := by decide +kernel
theorem d_C_feed_31 : decode b_C_feed 31 = .ok (.iload_n 3, 1) := by decide +kernel
theorem d_C_feed_32 : decode b_C_feed 32 = .ok (.invokevirtual 72, 3) := by decide +kernel
theorem d_C_feed_35 : decode b_C_feed 35 = .ok (.aload_n 0, 1) := by decide +kernel
theorem d_C_feed_36 : decode b_C_feed 36 = .ok (.iload 4, 2) := by decide +kernel
theorem d_C_feed_38 : decode b_C_feed 38 = .ok (.invokevirtual 72, 3) := by decide +kernel
theorem d_C_feed_41 : decode b_C_feed 41 = .ok (.aload_n 0, 1) := by decide +kernel
theorem d_C_feed_42 : decode b_C_feed 42 = .ok (.iload 5, 2) := by decide +kernel
theorem d_C_feed_44 : decode b_C_feed 44 = .ok (.invokevirtual 72, 3) := by decide +kernel
theorem d_C_feed_47 : decode b_C_feed 47 = .ok (.aload_n 0, 1) := by decide +kernel
theorem d_C_feed_48 : decode b_C_feed 48 = .ok (.getfield 61, 3) := by decide +kernel
theorem d_C_feed_51 : decode b_C_feed 51 = .ok (.ireturn, 1) := by decide +kernel
theorem d_C_end_0 : decode b_C_end 0 = .ok (.iload_n 1, 1) := by decide +kernel
theorem d_C_end_1 : decode b_C_end 1 = .ok (.ifCond .lt 11, 3) := by decide +kernel
theorem d_C_end_4 : decode b_C_end 4 = .ok (.iload_n 1, 1) := by decide +kernel
theorem d_C_end_5 : decode b_C_end 5 = .ok (.aload_n 0, 1) := by decide +kernel
theorem d_C_end_6 : decode b_C_end 6 = .ok (.getfield 61, 3) := by decide +kernel
theorem d_C_end_9 : decode b_C_end 9 = .ok (.if_icmp .le 13, 3) := by decide +kernel
theorem d_C_end_12 : decode b_C_end 12 = .ok (.new 76, 3) := by decide +kernel
theorem d_C_end_15 : decode b_C_end 15 = .ok (.dup, 1) := by decide +kernel
theorem d_C_end_16 : decode b_C_end 16 = .ok (.ldc 78, 2) := by decide +kernel
theorem d_C_end_18 : decode b_C_end 18 = .ok (.invokespecial 80, 3) := by decide +kernel
theorem d_C_end_21 : decode b_C_end 21 = .ok (.athrow, 1) := by decide +kernel
theorem d_C_end_22 : decode b_C_end 22 = .ok (.aload_n 0, 1) := by decide +kernel
theorem d_C_end_23 : decode b_C_end 23 = .ok (.iload_n 1, 1) := by decide +kernel
theorem d_C_end_24 : decode b_C_end 24 = .ok (.putfield 61, 3) := by decide +kernel
theorem d_C_end_27 : decode b_C_end 27 = .ok (.iload_n 1, 1) := by decide +kernel
theorem d_C_end_28 : decode b_C_end 28 = .ok (.ireturn, 1) := by decide +kernel
theorem d_C_dropMerge_0 : decode b_C_dropMerge 0 = .ok (.aload_n 0, 1) := by decide +kernel
theorem d_C_dropMerge_1 : decode b_C_dropMerge 1 = .ok (.iconst 0, 1) := by decide +kernel
theorem d_C_dropMerge_2 : decode b_C_dropMerge 2 = .ok (.putfield 113, 3) := by decide +kernel
theorem d_C_dropMerge_5 : decode b_C_dropMerge 5 = .ok (.aload_n 0, 1) := by decide +kernel
theorem d_C_dropMerge_6 : decode b_C_dropMerge 6 = .ok (.iconst 0, 1) := by decide +kernel
theorem d_C_dropMerge_7 : decode b_C_dropMerge 7 = .ok (.putfield 120, 3) := by decide +kernel
theorem d_C_dropMerge_10 : decode b_C_dropMerge 10 = .ok (.aload_n 0, 1) := by decide +kernel
theorem d_C_dropMerge_11 : decode b_C_dropMerge 11 = .ok (.iconst 0, 1) := by decide +kernel
theorem d_C_dropMerge_12 : decode b_C_dropMerge 12 = .ok (.putfield 123, 3) := by decide +kernel
theorem d_C_dropMerge_15 : decode b_C_dropMerge 15 = .ok (.return_, 1) := by decide +kernel
theorem d_C_clear_0 : decode b_C_clear 0 = .ok (.aload_n 0, 1) := by decide +kernel
theorem d_C_clear_1 : decode b_C_clear 1 = .ok (.getfield 81, 3) := by decide +kernel
theorem d_C_clear_4 : decode b_C_clear 4 = .ok (.istore_n 1, 1) := by decide +kernel
theorem d_C_clear_5 : decode b_C_clear 5 = .ok (.aload_n 0, 1) := by decide +kernel
theorem d_C_clear_6 : decode b_C_clear 6 = .ok (.iconst 0, 1) := by decide +kernel
theorem d_C_clear_7 : decode b_C_clear 7 = .ok (.putfield 81, 3) := by decide +kernel
theorem d_C_clear_10 : decode b_C_clear 10 = .ok (.aload_n 0, 1) := by decide +kernel
theorem d_C_clear_11 : decode b_C_clear 11 = .ok (.invokevirtual 86, 3) := by decide +kernel
theorem d_C_clear_14 : decode b_C_clear 14 = .ok (.iload_n 1, 1) := by decide +kernel
theorem d_C_clear_15 : decode b_C_clear 15 = .ok (.ireturn, 1) := by decide +kernel
theorem d_C_argument_0 : decode b_C_argument 0 = .ok (.aload_n 0, 1) := by decide +kernel
theorem d_C_argument_1 : decode b_C_argument 1 = .ok (.getfield 123, 3) := by decide +kernel
theorem d_C_argument_4 : decode b_C_argument 4 = .ok (.bipush 6, 2) := by decide +kernel
theorem d_C_argument_6 : decode b_C_argument 6 = .ok (.if_icmp .lt 13, 3) := by decide +kernel
theorem d_C_argument_19 : decode b_C_argument 19 = .ok (.aload_n 0, 1) := by decide +kernel
theorem d_C_argument_20 : decode b_C_argument 20 = .ok (.getfield 19, 3) := by decide +kernel
theorem d_C_argument_23 : decode b_C_argument 23 = .ok (.aload_n 0, 1) := by decide +kernel
theorem d_C_argument_24 : decode b_C_argument 24 = .ok (.getfield 123, 3) := by decide +kernel
theorem d_C_argument_27 : decode b_C_argument 27 = .ok (.lload_n 1, 1) := by decide +kernel
theorem d_C_argument_28 : decode b_C_argument 28 = .ok (.lastore, 1) := by decide +kernel
theorem d_C_argument_29 : decode b_C_argument 29 = .ok (.aload_n 0, 1) := by decide +kernel
theorem d_C_argument_30 : decode b_C_argument 30 = .ok (.dup, 1) := by decide +kernel
theorem d_C_argument_31 : decode b_C_argument 31 = .ok (.getfield 123, 3) := by decide +kernel
theorem d_C_argument_34 : decode b_C_argument 34 = .ok (.iconst 1, 1) := by decide +kernel
theorem d_C_argument_35 : decode b_C_argument 35 = .ok (.iadd, 1) := by decide +kernel
theorem d_C_argument_36 : decode b_C_argument 36 = .ok (.putfield 123, 3) := by decide +kernel
theorem d_C_argument_39 : decode b_C_argument 39 = .ok (.aload_n 0, 1) := by decide +kernel
theorem d_C_argument_40 : decode b_C_argument 40 = .ok (.getfield 123, 3) := by decide +kernel
theorem d_C_argument_43 : decode b_C_argument 43 = .ok (.ireturn, 1) := by decide +kernel
theorem d_C_fault_0 : decode b_C_fault 0 = .ok (.aload_n 0, 1) := by decide +kernel
theorem d_C_fault_1 : decode b_C_fault 1 = .ok (.getfield 93, 3) := by decide +kernel
theorem d_C_fault_4 : decode b_C_fault 4 = .ok (.ireturn, 1) := by decide +kernel
theorem d_C_trap_0 : decode b_C_trap 0 = .ok (.aload_n 0, 1) := by decide +kernel
theorem d_C_trap_1 : decode b_C_trap 1 = .ok (.getfield 57, 3) := by decide +kernel
theorem d_C_trap_4 : decode b_C_trap 4 = .ok (.getfield 131, 3) := by decide +kernel
theorem d_C_trap_7 : decode b_C_trap 7 = .ok (.ireturn, 1) := by decide +kernel
theorem d_Machine_takeOutput_0 : decode b_Machine_takeOutput 0 = .ok (.aload_n 0, 1) := by decide +kernel
theorem d_Machine_takeOutput_1 : decode b_Machine_takeOutput 1 = .ok (.getfield 115, 3) := by decide +kernel
theorem d_Machine_takeOutput_4 : decode b_Machine_takeOutput 4 = .ok (.ifCond .ne 5, 3) := by decide +kernel
theorem d_Machine_takeOutput_7 : decode b_Machine_takeOutput 7 = .ok (.lconst 0, 1) := by decide +kernel
theorem d_Machine_takeOutput_8 : decode b_Machine_takeOutput 8 = .ok (.lreturn, 1) := by decide +kernel
theorem d_C_take_0 : decode b_C_take 0 = .ok (.aload_n 0, 1) := by decide +kernel
theorem d_C_take_1 : decode b_C_take 1 = .ok (.getfield 57, 3) := by decide +kernel
theorem d_C_take_4 : decode b_C_take 4 = .ok (.invokevirtual 187, 3) := by decide +kernel
theorem d_C_take_7 : decode b_C_take 7 = .ok (.lreturn, 1) := by decide +kernel
theorem d_C_merge_0 : decode b_C_merge 0 = .ok (.aload_n 0, 1) := by decide +kernel
theorem d_C_merge_1 : decode b_C_merge 1 = .ok (.getfield 81, 3) := by decide +kernel
theorem d_C_merge_4 : decode b_C_merge 4 = .ok (.ifCond .ne 13, 3) := by decide +kernel
theorem d_C_merge_7 : decode b_C_merge 7 = .ok (.new 65, 3) := by decide +kernel
theorem d_C_merge_10 : decode b_C_merge 10 = .ok (.dup, 1) := by decide +kernel
theorem d_C_merge_11 : decode b_C_merge 11 = .ok (.ldc 105, 2) := by decide +kernel
theorem d_C_merge_13 : decode b_C_merge 13 = .ok (.invokespecial 69, 3) := by decide +kernel
theorem d_C_merge_16 : decode b_C_merge 16 = .ok (.athrow, 1) := by decide +kernel
theorem d_C_begin_0 : decode b_C_begin 0 = .ok (.aload_n 0, 1) := by decide +kernel
theorem d_C_begin_1 : decode b_C_begin 1 = .ok (.getfield 113, 3) := by decide +kernel
theorem d_C_begin_4 : decode b_C_begin 4 = .ok (.ifCond .ne 13, 3) := by decide +kernel
theorem d_C_begin_7 : decode b_C_begin 7 = .ok (.new 65, 3) := by decide +kernel
theorem d_C_begin_10 : decode b_C_begin 10 = .ok (.dup, 1) := by decide +kernel
theorem d_C_begin_11 : decode b_C_begin 11 = .ok (.ldc 126, 2) := by decide +kernel
theorem d_C_begin_13 : decode b_C_begin 13 = .ok (.invokespecial 69, 3) := by decide +kernel
theorem d_C_begin_16 : decode b_C_begin 16 = .ok (.athrow, 1) := by decide +kernel
theorem d_C_check_0 : decode b_C_check 0 = .ok (.aload_n 0, 1) := by decide +kernel
theorem d_C_check_1 : decode b_C_check 1 = .ok (.getfield 113, 3) := by decide +kernel
theorem d_C_check_4 : decode b_C_check 4 = .ok (.ifCond .ne 13, 3) := by decide +kernel
theorem d_C_check_7 : decode b_C_check 7 = .ok (.new 65, 3) := by decide +kernel
theorem d_C_check_10 : decode b_C_check 10 = .ok (.dup, 1) := by decide +kernel
theorem d_C_check_11 : decode b_C_check 11 = .ok (.ldc 126, 2) := by decide +kernel
theorem d_C_check_13 : decode b_C_check 13 = .ok (.invokespecial 69, 3) := by decide +kernel
theorem d_C_check_16 : decode b_C_check 16 = .ok (.athrow, 1) := by decide +kernel
theorem d_C_count_0 : decode b_C_count 0 = .ok (.aload_n 0, 1) := by decide +kernel
theorem d_C_count_1 : decode b_C_count 1 = .ok (.getfield 113, 3) := by decide +kernel
theorem d_C_count_4 : decode b_C_count 4 = .ok (.ifCond .ne 13, 3) := by decide +kernel
theorem d_C_count_7 : decode b_C_count 7 = .ok (.new 65, 3) := by decide +kernel
theorem d_C_count_10 : decode b_C_count 10 = .ok (.dup, 1) := by decide +kernel
theorem d_C_count_11 : decode b_C_count 11 = .ok (.ldc 126, 2) := by decide +kernel
theorem d_C_count_13 : decode b_C_count 13 = .ok (.invokespecial 69, 3) := by decide +kernel
theorem d_C_count_16 : decode b_C_count 16 = .ok (.athrow, 1) := by decide +kernel
theorem d_C_memory_0 : decode b_C_memory 0 = .ok (.aload_n 0, 1) := by decide +kernel
theorem d_C_memory_1 : decode b_C_memory 1 = .ok (.getfield 120, 3) := by decide +kernel
theorem d_C_memory_4 : decode b_C_memory 4 = .ok (.ifCond .ne 13, 3) := by decide +kernel
theorem d_C_memory_7 : decode b_C_memory 7 = .ok (.new 65, 3) := by decide +kernel
theorem d_C_memory_10 : decode b_C_memory 10 = .ok (.dup, 1) := by decide +kernel
theorem d_C_memory_11 : decode b_C_memory 11 = .ok (.ldc 141, 2) := by decide +kernel
theorem d_C_memory_13 : decode b_C_memory 13 = .ok (.invokespecial 69, 3) := by decide +kernel
theorem d_C_memory_16 : decode b_C_memory 16 = .ok (.athrow, 1) := by decide +kernel
theorem d_C_call_0 : decode b_C_call 0 = .ok (.aload_n 0, 1) := by decide +kernel
theorem d_C_call_1 : decode b_C_call 1 = .ok (.getfield 120, 3) := by decide +kernel
theorem d_C_call_4 : decode b_C_call 4 = .ok (.ifCond .ne 13, 3) := by decide +kernel
theorem d_C_call_7 : decode b_C_call 7 = .ok (.new 65, 3) := by decide +kernel
theorem d_C_call_10 : decode b_C_call 10 = .ok (.dup, 1) := by decide +kernel
theorem d_C_call_11 : decode b_C_call 11 = .ok (.ldc 141, 2) := by decide +kernel
theorem d_C_call_13 : decode b_C_call 13 = .ok (.invokespecial 69, 3) := by decide +kernel
theorem d_C_call_16 : decode b_C_call 16 = .ok (.athrow, 1) := by decide +kernel
theorem d_C_global_0 : decode b_C_global 0 = .ok (.aload_n 0, 1) := by decide +kernel
theorem d_C_global_1 : decode b_C_global 1 = .ok (.getfield 120, 3) := by decide +kernel
theorem d_C_global_4 : decode b_C_global 4 = .ok (.ifCond .ne 13, 3) := by decide +kernel
theorem d_C_global_7 : decode b_C_global 7 = .ok (.new 65, 3) := by decide +kernel
theorem d_C_global_10 : decode b_C_global 10 = .ok (.dup, 1) := by decide +kernel
theorem d_C_global_11 : decode b_C_global 11 = .ok (.ldc 141, 2) := by decide +kernel
theorem d_C_global_13 : decode b_C_global 13 = .ok (.invokespecial 69, 3) := by decide +kernel
theorem d_C_global_16 : decode b_C_global 16 = .ok (.athrow, 1) := by decide +kernel
theorem d_C_told_0 : decode b_C_told 0 = .ok (.iload_n 1, 1) := by decide +kernel
theorem d_C_told_1 : decode b_C_told 1 = .ok (.ifCond .lt 11, 3) := by decide +kernel
theorem d_C_told_4 : decode b_C_told 4 = .ok (.iload_n 1, 1) := by decide +kernel
theorem d_C_told_5 : decode b_C_told 5 = .ok (.aload_n 0, 1) := by decide +kernel
theorem d_C_told_6 : decode b_C_told 6 = .ok (.getfield 81, 3) := by decide +kernel
theorem d_C_told_9 : decode b_C_told 9 = .ok (.if_icmp .lt 13, 3) := by decide +kernel
theorem d_C_told_12 : decode b_C_told 12 = .ok (.new 147, 3) := by decide +kernel
theorem d_C_told_15 : decode b_C_told 15 = .ok (.dup, 1) := by decide +kernel
theorem d_C_told_16 : decode b_C_told 16 = .ok (.ldc 203, 2) := by decide +kernel
theorem d_C_told_18 : decode b_C_told 18 = .ok (.invokespecial 151, 3) := by decide +kernel
theorem d_C_told_21 : decode b_C_told 21 = .ok (.athrow, 1) := by decide +kernel
theorem d_Module_reset_0 : decode b_Module_reset 0 = .ok (.aload_n 0, 1) := by decide +kernel
theorem d_Module_reset_1 : decode b_Module_reset 1 = .ok (.iconst 0, 1) := by decide +kernel
theorem d_Module_reset_2 : decode b_Module_reset 2 = .ok (.putfield 60, 3) := by decide +kernel
theorem d_Module_reset_5 : decode b_Module_reset 5 = .ok (.aload_n 0, 1) := by decide +kernel
theorem d_Module_reset_6 : decode b_Module_reset 6 = .ok (.iconst 0, 1) := by decide +kernel
theorem d_Module_reset_7 : decode b_Module_reset 7 = .ok (.putfield 63, 3) := by decide +kernel
theorem d_Module_reset_10 : decode b_Module_reset 10 = .ok (.aload_n 0, 1) := by decide +kernel
theorem d_Module_reset_11 : decode b_Module_reset 11 = .ok (.iconst 0, 1) := by decide +kernel
theorem d_Module_reset_12 : decode b_Module_reset 12 = .ok (.putfield 66, 3) := by decide +kernel
theorem d_Module_reset_15 : decode b_Module_reset 15 = .ok (.aload_n 0, 1) := by decide +kernel
theorem d_Module_reset_16 : decode b_Module_reset 16 = .ok (.iconst 0, 1) := by decide +kernel
theorem d_Module_reset_17 : decode b_Module_reset 17 = .ok (.putfield 69, 3) := by decide +kernel
theorem d_Module_reset_20 : decode b_Module_reset 20 = .ok (.aload_n 0, 1) := by decide +kernel
theorem d_Module_reset_21 : decode b_Module_reset 21 = .ok (.iconst 0, 1) := by decide +kernel
theorem d_Module_reset_22 : decode b_Module_reset 22 = .ok (.putfield 72, 3) := by decide +kernel
theorem d_Module_reset_25 : decode b_Module_reset 25 = .ok (.aload_n 0, 1) := by decide +kernel
theorem d_Module_reset_26 : decode b_Module_reset 26 = .ok (.iconst 0, 1) := by decide +kernel
theorem d_Module_reset_27 : decode b_Module_reset 27 = .ok (.putfield 75, 3) := by decide +kernel
theorem d_Module_reset_30 : decode b_Module_reset 30 = .ok (.aload_n 0, 1) := by decide +kernel
theorem d_Module_reset_31 : decode b_Module_reset 31 = .ok (.iconst 0, 1) := by decide +kernel
theorem d_Module_reset_32 : decode b_Module_reset 32 = .ok (.putfield 78, 3) := by decide +kernel
theorem d_Module_reset_35 : decode b_Module_reset 35 = .ok (.aload_n 0, 1) := by decide +kernel
theorem d_Module_reset_36 : decode b_Module_reset 36 = .ok (.iconst 0, 1) := by decide +kernel
theorem d_Module_reset_37 : decode b_Module_reset 37 = .ok (.putfield 81, 3) := by decide +kernel
theorem d_Module_reset_40 : decode b_Module_reset 40 = .ok (.aload_n 0, 1) := by decide +kernel
theorem d_Module_reset_41 : decode b_Module_reset 41 = .ok (.iconst 0, 1) := by decide +kernel
theorem d_Module_reset_42 : decode b_Module_reset 42 = .ok (.putfield 84, 3) := by decide +kernel
theorem d_Module_reset_45 : decode b_Module_reset 45 = .ok (.aload_n 0, 1) := by decide +kernel
theorem d_Module_reset_46 : decode b_Module_reset 46 = .ok (.iconst (-1), 1) := by decide +kernel
theorem d_Module_reset_47 : decode b_Module_reset 47 = .ok (.putfield 54, 3) := by decide +kernel
theorem d_Module_reset_50 : decode b_Module_reset 50 = .ok (.return_, 1) := by decide +kernel
theorem d_Reader_open_0 : decode b_Reader_open 0 = .ok (.aload_n 0, 1) := by decide +kernel
theorem d_Reader_open_1 : decode b_Reader_open 1 = .ok (.aload_n 1, 1) := by decide +kernel
theorem d_Reader_open_2 : decode b_Reader_open 2 = .ok (.putfield 9, 3) := by decide +kernel
theorem d_Reader_open_5 : decode b_Reader_open 5 = .ok (.aload_n 0, 1) := by decide +kernel
theorem d_Reader_open_6 : decode b_Reader_open 6 = .ok (.iload_n 2, 1) := by decide +kernel
theorem d_Reader_open_7 : decode b_Reader_open 7 = .ok (.putfield 19, 3) := by decide +kernel
theorem d_Reader_open_10 : decode b_Reader_open 10 = .ok (.aload_n 0, 1) := by decide +kernel
theorem d_Reader_open_11 : decode b_Reader_open 11 = .ok (.iload_n 3, 1) := by decide +kernel
theorem d_Reader_open_12 : decode b_Reader_open 12 = .ok (.putfield 23, 3) := by decide +kernel
theorem d_Reader_open_15 : decode b_Reader_open 15 = .ok (.aload_n 0, 1) := by decide +kernel
theorem d_Reader_open_16 : decode b_Reader_open 16 = .ok (.iconst 0, 1) := by decide +kernel
theorem d_Reader_open_17 : decode b_Reader_open 17 = .ok (.putfield 26, 3) := by decide +kernel
theorem d_Reader_open_20 : decode b_Reader_open 20 = .ok (.return_, 1) := by decide +kernel
theorem d_Reader_u8_0 : decode b_Reader_u8 0 = .ok (.aload_n 0, 1) := by decide +kernel
theorem d_Reader_u8_1 : decode b_Reader_u8 1 = .ok (.getfield 19, 3) := by decide +kernel
theorem d_Reader_u8_4 : decode b_Reader_u8 4 = .ok (.ifCond .lt 26, 3) := by decide +kernel
theorem d_Reader_u8_7 : decode b_Reader_u8 7 = .ok (.aload_n 0, 1) := by decide +kernel
theorem d_Reader_u8_8 : decode b_Reader_u8 8 = .ok (.getfield 19, 3) := by decide +kernel
theorem d_Reader_u8_11 : decode b_Reader_u8 11 = .ok (.aload_n 0, 1) := by decide +kernel
theorem d_Reader_u8_12 : decode b_Reader_u8 12 = .ok (.getfield 23, 3) := by decide +kernel
theorem d_Reader_u8_15 : decode b_Reader_u8 15 = .ok (.if_icmp .ge 15, 3) := by decide +kernel
theorem d_Reader_u8_30 : decode b_Reader_u8 30 = .ok (.aload_n 0, 1) := by decide +kernel
theorem d_Reader_u8_31 : decode b_Reader_u8 31 = .ok (.iconst 1, 1) := by decide +kernel
theorem d_Reader_u8_32 : decode b_Reader_u8 32 = .ok (.putfield 26, 3) := by decide +kernel
theorem d_Reader_u8_35 : decode b_Reader_u8 35 = .ok (.iconst 0, 1) := by decide +kernel
theorem d_Reader_u8_36 : decode b_Reader_u8 36 = .ok (.ireturn, 1) := by decide +kernel
theorem d_Parser_readHeader_0 : decode b_Parser_readHeader 0 = .ok (.iconst 0, 1) := by decide +kernel
theorem d_Parser_readHeader_1 : decode b_Parser_readHeader 1 = .ok (.istore_n 1, 1) := by decide +kernel
theorem d_Parser_readHeader_2 : decode b_Parser_readHeader 2 = .ok (.iconst 0, 1) := by decide +kernel
theorem d_Parser_readHeader_3 : decode b_Parser_readHeader 3 = .ok (.istore_n 2, 1) := by decide +kernel
theorem d_Parser_readHeader_4 : decode b_Parser_readHeader 4 = .ok (.iconst 0, 1) := by decide +kernel
theorem d_Parser_readHeader_5 : decode b_Parser_readHeader 5 = .ok (.istore_n 3, 1) := by decide +kernel
theorem d_Parser_readHeader_6 : decode b_Parser_readHeader 6 = .ok (.iload_n 3, 1) := by decide +kernel
theorem d_Parser_readHeader_7 : decode b_Parser_readHeader 7 = .ok (.iconst 4, 1) := by decide +kernel
theorem d_Parser_readHeader_8 : decode b_Parser_readHeader 8 = .ok (.if_icmp .ge 22, 3) := by decide +kernel
theorem d_Parser_readHeader_11 : decode b_Parser_readHeader 11 = .ok (.iload_n 1, 1) := by decide +kernel
theorem d_Parser_readHeader_12 : decode b_Parser_readHeader 12 = .ok (.bipush 8, 2) := by decide +kernel
theorem d_Parser_readHeader_14 : decode b_Parser_readHeader 14 = .ok (.ishl, 1) := by decide +kernel
theorem d_Parser_readHeader_15 : decode b_Parser_readHeader 15 = .ok (.aload_n 0, 1) := by decide +kernel
theorem d_Parser_readHeader_16 : decode b_Parser_readHeader 16 = .ok (.getfield 12, 3) := by decide +kernel
theorem d_Parser_readHeader_19 : decode b_Parser_readHeader 19 = .ok (.invokevirtual 95, 3) := by decide +kernel
theorem d_Parser_readHeader_22 : decode b_Parser_readHeader 22 = .ok (.ior, 1) := by decide +kernel
theorem d_Parser_readHeader_23 : decode b_Parser_readHeader 23 = .ok (.istore_n 1, 1) := by decide +kernel
theorem d_Parser_readHeader_24 : decode b_Parser_readHeader 24 = .ok (.iinc 3 1, 3) := by decide +kernel
theorem d_Parser_readHeader_27 : decode b_Parser_readHeader 27 = .ok (.goto (-21), 3) := by decide +kernel
theorem d_Parser_readHeader_30 : decode b_Parser_readHeader 30 = .ok (.iconst 0, 1) := by decide +kernel
theorem d_Parser_readHeader_31 : decode b_Parser_readHeader 31 = .ok (.istore_n 3, 1) := by decide +kernel
theorem d_Parser_readHeader_32 : decode b_Parser_readHeader 32 = .ok (.iload_n 3, 1) := by decide +kernel
theorem d_Parser_readHeader_33 : decode b_Parser_readHeader 33 = .ok (.iconst 4, 1) := by decide +kernel
theorem d_Parser_readHeader_34 : decode b_Parser_readHeader 34 = .ok (.if_icmp .ge 22, 3) := by decide +kernel
theorem d_Parser_readHeader_37 : decode b_Parser_readHeader 37 = .ok (.iload_n 2, 1) := by decide +kernel
theorem d_Parser_readHeader_38 : decode b_Parser_readHeader 38 = .ok (.bipush 8, 2) := by decide +kernel
theorem d_Parser_readHeader_40 : decode b_Parser_readHeader 40 = .ok (.ishl, 1) := by decide +kernel
theorem d_Parser_readHeader_41 : decode b_Parser_readHeader 41 = .ok (.aload_n 0, 1) := by decide +kernel
theorem d_Parser_readHeader_42 : decode b_Parser_readHeader 42 = .ok (.getfield 12, 3) := by decide +kernel
theorem d_Parser_readHeader_45 : decode b_Parser_readHeader 45 = .ok (.invokevirtual 95, 3) := by decide +kernel
theorem d_Parser_readHeader_48 : decode b_Parser_readHeader 48 = .ok (.ior, 1) := by decide +kernel
theorem d_Parser_readHeader_49 : decode b_Parser_readHeader 49 = .ok (.istore_n 2, 1) := by decide +kernel
theorem d_Parser_readHeader_50 : decode b_Parser_readHeader 50 = .ok (.iinc 3 1, 3) := by decide +kernel
theorem d_Parser_readHeader_53 : decode b_Parser_readHeader 53 = .ok (.goto (-21), 3) := by decide +kernel
theorem d_Parser_readHeader_56 : decode b_Parser_readHeader 56 = .ok (.aload_n 0, 1) := by decide +kernel
theorem d_Parser_readHeader_57 : decode b_Parser_readHeader 57 = .ok (.getfield 12, 3) := by decide +kernel
theorem d_Parser_readHeader_60 : decode b_Parser_readHeader 60 = .ok (.dup, 1) := by decide +kernel
theorem d_Parser_readHeader_61 : decode b_Parser_readHeader 61 = .ok (.getfield 86, 3) := by decide +kernel
theorem d_Parser_readHeader_64 : decode b_Parser_readHeader 64 = .ok (.iload_n 1, 1) := by decide +kernel
theorem d_Parser_readHeader_65 : decode b_Parser_readHeader 65 = .ok (.ldc 123, 2) := by decide +kernel
theorem d_Parser_readHeader_67 : decode b_Parser_readHeader 67 = .ok (.if_icmp .ne 9, 3) := by decide +kernel
theorem d_Parser_readHeader_76 : decode b_Parser_readHeader 76 = .ok (.iconst 1, 1) := by decide +kernel
theorem d_Parser_readHeader_77 : decode b_Parser_readHeader 77 = .ok (.goto 4, 3) := by decide +kernel
theorem d_Parser_readHeader_81 : decode b_Parser_readHeader 81 = .ok (.ior, 1) := by decide +kernel
theorem d_Parser_readHeader_82 : decode b_Parser_readHeader 82 = .ok (.putfield 86, 3) := by decide +kernel
theorem d_Parser_readHeader_85 : decode b_Parser_readHeader 85 = .ok (.return_, 1) := by decide +kernel
theorem d_Parser_parse_0 : decode b_Parser_parse 0 = .ok (.aload_n 0, 1) := by decide +kernel
theorem d_Parser_parse_1 : decode b_Parser_parse 1 = .ok (.aload_n 3, 1) := by decide +kernel
theorem d_Parser_parse_2 : decode b_Parser_parse 2 = .ok (.putfield 43, 3) := by decide +kernel
theorem d_Parser_parse_5 : decode b_Parser_parse 5 = .ok (.aload_n 0, 1) := by decide +kernel
theorem d_Parser_parse_6 : decode b_Parser_parse 6 = .ok (.getfield 43, 3) := by decide +kernel
theorem d_Parser_parse_9 : decode b_Parser_parse 9 = .ok (.invokevirtual 47, 3) := by decide +kernel
theorem d_Parser_parse_12 : decode b_Parser_parse 12 = .ok (.aload_n 1, 1) := by decide +kernel
theorem d_Parser_parse_13 : decode b_Parser_parse 13 = .ok (.iconst 0, 1) := by decide +kernel
theorem d_Parser_parse_14 : decode b_Parser_parse 14 = .ok (.aload_n 0, 1) := by decide +kernel
theorem d_Parser_parse_15 : decode b_Parser_parse 15 = .ok (.getfield 43, 3) := by decide +kernel
theorem d_Parser_parse_18 : decode b_Parser_parse 18 = .ok (.getfield 52, 3) := by decide +kernel
theorem d_Parser_parse_21 : decode b_Parser_parse 21 = .ok (.iconst 0, 1) := by decide +kernel
theorem d_Parser_parse_22 : decode b_Parser_parse 22 = .ok (.iload_n 2, 1) := by decide +kernel
theorem d_Parser_parse_23 : decode b_Parser_parse 23 = .ok (.invokestatic 56, 3) := by decide +kernel
theorem d_Parser_parse_26 : decode b_Parser_parse 26 = .ok (.aload_n 0, 1) := by decide +kernel
theorem d_Parser_parse_27 : decode b_Parser_parse 27 = .ok (.getfield 12, 3) := by decide +kernel
theorem d_Parser_parse_30 : decode b_Parser_parse 30 = .ok (.aload_n 0, 1) := by decide +kernel
theorem d_Parser_parse_31 : decode b_Parser_parse 31 = .ok (.getfield 43, 3) := by decide +kernel
theorem d_Parser_parse_34 : decode b_Parser_parse 34 = .ok (.getfield 52, 3) := by decide +kernel
theorem d_Parser_parse_37 : decode b_Parser_parse 37 = .ok (.iconst 0, 1) := by decide +kernel
theorem d_Parser_parse_38 : decode b_Parser_parse 38 = .ok (.iload_n 2, 1) := by decide +kernel
theorem d_Parser_parse_39 : decode b_Parser_parse 39 = .ok (.invokevirtual 62, 3) := by decide +kernel
theorem d_Parser_parse_42 : decode b_Parser_parse 42 = .ok (.aload_n 0, 1) := by decide +kernel
theorem d_Parser_parse_43 : decode b_Parser_parse 43 = .ok (.iconst 0, 1) := by decide +kernel
theorem d_Parser_parse_44 : decode b_Parser_parse 44 = .ok (.putfield 66, 3) := by decide +kernel
theorem d_Parser_parse_47 : decode b_Parser_parse 47 = .ok (.aload_n 0, 1) := by decide +kernel
theorem d_Parser_parse_48 : decode b_Parser_parse 48 = .ok (.iconst 0, 1) := by decide +kernel
theorem d_Parser_parse_49 : decode b_Parser_parse 49 = .ok (.putfield 70, 3) := by decide +kernel
theorem d_Parser_parse_52 : decode b_Parser_parse 52 = .ok (.aload_n 0, 1) := by decide +kernel
theorem d_Parser_parse_53 : decode b_Parser_parse 53 = .ok (.iconst 0, 1) := by decide +kernel
theorem d_Parser_parse_54 : decode b_Parser_parse 54 = .ok (.putfield 73, 3) := by decide +kernel
theorem d_Parser_parse_57 : decode b_Parser_parse 57 = .ok (.aload_n 0, 1) := by decide +kernel
theorem d_Parser_parse_58 : decode b_Parser_parse 58 = .ok (.iconst 0, 1) := by decide +kernel
theorem d_Parser_parse_59 : decode b_Parser_parse 59 = .ok (.putfield 77, 3) := by decide +kernel
theorem d_Parser_parse_62 : decode b_Parser_parse 62 = .ok (.aload_n 0, 1) := by decide +kernel
theorem d_Parser_parse_63 : decode b_Parser_parse 63 = .ok (.iconst 0, 1) := by decide +kernel
theorem d_Parser_parse_64 : decode b_Parser_parse 64 = .ok (.putfield 80, 3) := by decide +kernel
theorem d_Parser_parse_67 : decode b_Parser_parse 67 = .ok (.aload_n 0, 1) := by decide +kernel
theorem d_Parser_parse_68 : decode b_Parser_parse 68 = .ok (.invokevirtual 83, 3) := by decide +kernel
theorem d_Parser_parse_71 : decode b_Parser_parse 71 = .ok (.iconst 0, 1) := by decide +kernel
theorem d_Parser_parse_72 : decode b_Parser_parse 72 = .ok (.istore 4, 2) := by decide +kernel
theorem d_Parser_parse_74 : decode b_Parser_parse 74 = .ok (.iconst 0, 1) := by decide +kernel
theorem d_Parser_parse_75 : decode b_Parser_parse 75 = .ok (.istore 5, 2) := by decide +kernel
theorem d_Parser_parse_77 : decode b_Parser_parse 77 = .ok (.iload 5, 2) := by decide +kernel
theorem d_Parser_parse_79 : decode b_Parser_parse 79 = .ok (.sipush 4000, 3) := by decide +kernel
theorem d_Parser_parse_82 : decode b_Parser_parse 82 = .ok (.if_icmp .ge 128, 3) := by decide +kernel
theorem d_Parser_parse_85 : decode b_Parser_parse 85 = .ok (.aload_n 0, 1) := by decide +kernel
theorem d_Parser_parse_86 : decode b_Parser_parse 86 = .ok (.getfield 12, 3) := by decide +kernel
theorem d_Parser_parse_89 : decode b_Parser_parse 89 = .ok (.getfield 86, 3) := by decide +kernel
theorem d_Parser_parse_92 : decode b_Parser_parse 92 = .ok (.ifCond .ne 118, 3) := by decide +kernel
theorem d_Parser_parse_210 : decode b_Parser_parse 210 = .ok (.aload_n 0, 1) := by decide +kernel
theorem d_Parser_parse_211 : decode b_Parser_parse 211 = .ok (.getfield 12, 3) := by decide +kernel
theorem d_Parser_parse_214 : decode b_Parser_parse 214 = .ok (.getfield 86, 3) := by decide +kernel
theorem d_Parser_parse_217 : decode b_Parser_parse 217 = .ok (.ifCond .ne 14, 3) := by decide +kernel
theorem d_Parser_parse_231 : decode b_Parser_parse 231 = .ok (.iconst 1, 1) := by decide +kernel
theorem d_Parser_parse_232 : decode b_Parser_parse 232 = .ok (.ireturn, 1) := by decide +kernel
theorem d_C_add_0 : decode b_C_add 0 = .ok (.aload_n 0, 1) := by decide +kernel
theorem d_C_add_1 : decode b_C_add 1 = .ok (.getfield 81, 3) := by decide +kernel
theorem d_C_add_4 : decode b_C_add 4 = .ok (.bipush 6, 2) := by decide +kernel
theorem d_C_add_6 : decode b_C_add 6 = .ok (.if_icmp .lt 13, 3) := by decide +kernel
theorem d_C_add_19 : decode b_C_add 19 = .ok (.aload_n 0, 1) := by decide +kernel
theorem d_C_add_20 : decode b_C_add 20 = .ok (.getfield 61, 3) := by decide +kernel
theorem d_C_add_23 : decode b_C_add 23 = .ok (.istore_n 1, 1) := by decide +kernel
theorem d_C_add_24 : decode b_C_add 24 = .ok (.aload_n 0, 1) := by decide +kernel
theorem d_C_add_25 : decode b_C_add 25 = .ok (.iconst 0, 1) := by decide +kernel
theorem d_C_add_26 : decode b_C_add 26 = .ok (.putfield 61, 3) := by decide +kernel
theorem d_C_add_29 : decode b_C_add 29 = .ok (.aload_n 0, 1) := by decide +kernel
theorem d_C_add_30 : decode b_C_add 30 = .ok (.invokevirtual 86, 3) := by decide +kernel
theorem d_C_add_33 : decode b_C_add 33 = .ok (.aload_n 0, 1) := by decide +kernel
theorem d_C_add_34 : decode b_C_add 34 = .ok (.getfield 15, 3) := by decide +kernel
theorem d_C_add_37 : decode b_C_add 37 = .ok (.aload_n 0, 1) := by decide +kernel
theorem d_C_add_38 : decode b_C_add 38 = .ok (.getfield 81, 3) := by decide +kernel
theorem d_C_add_41 : decode b_C_add 41 = .ok (.aaload, 1) := by decide +kernel
theorem d_C_add_42 : decode b_C_add 42 = .ok (.astore_n 2, 1) := by decide +kernel
theorem d_C_add_43 : decode b_C_add 43 = .ok (.aload_n 0, 1) := by decide +kernel
theorem d_C_add_44 : decode b_C_add 44 = .ok (.aload_n 0, 1) := by decide +kernel
theorem d_C_add_45 : decode b_C_add 45 = .ok (.getfield 30, 3) := by decide +kernel
theorem d_C_add_48 : decode b_C_add 48 = .ok (.aload_n 0, 1) := by decide +kernel
theorem d_C_add_49 : decode b_C_add 49 = .ok (.getfield 9, 3) := by decide +kernel
theorem d_C_add_52 : decode b_C_add 52 = .ok (.iload_n 1, 1) := by decide +kernel
theorem d_C_add_53 : decode b_C_add 53 = .ok (.aload_n 2, 1) := by decide +kernel
theorem d_C_add_54 : decode b_C_add 54 = .ok (.invokevirtual 89, 3) := by decide +kernel
theorem d_C_add_57 : decode b_C_add 57 = .ok (.putfield 93, 3) := by decide +kernel
theorem d_C_add_60 : decode b_C_add 60 = .ok (.aload_n 0, 1) := by decide +kernel
theorem d_C_add_61 : decode b_C_add 61 = .ok (.getfield 93, 3) := by decide +kernel
theorem d_C_add_64 : decode b_C_add 64 = .ok (.ifCond .ne 23, 3) := by decide +kernel
theorem d_C_add_87 : decode b_C_add 87 = .ok (.aload_n 0, 1) := by decide +kernel
theorem d_C_add_88 : decode b_C_add 88 = .ok (.getfield 93, 3) := by decide +kernel
theorem d_C_add_91 : decode b_C_add 91 = .ok (.ifCond .eq 13, 3) := by decide +kernel
theorem d_C_add_94 : decode b_C_add 94 = .ok (.new 100, 3) := by decide +kernel
theorem d_C_add_97 : decode b_C_add 97 = .ok (.dup, 1) := by decide +kernel
theorem d_C_add_98 : decode b_C_add 98 = .ok (.ldc 102, 2) := by decide +kernel
theorem d_C_add_100 : decode b_C_add 100 = .ok (.invokespecial 104, 3) := by decide +kernel
theorem d_C_add_103 : decode b_C_add 103 = .ok (.athrow, 1) := by decide +kernel
theorem d_M_four_0 : decode b_M_four 0 = .ok (.bipush 24, 2) := by decide +kernel
theorem d_M_four_2 : decode b_M_four 2 = .ok (.istore_n 2, 1) := by decide +kernel
theorem d_M_four_3 : decode b_M_four 3 = .ok (.iload_n 2, 1) := by decide +kernel
theorem d_M_four_4 : decode b_M_four 4 = .ok (.ifCond .lt 29, 3) := by decide +kernel
theorem d_M_four_7 : decode b_M_four 7 = .ok (.aload_n 0, 1) := by decide +kernel
theorem d_M_four_8 : decode b_M_four 8 = .ok (.getfield 9, 3) := by decide +kernel
theorem d_M_four_11 : decode b_M_four 11 = .ok (.aload_n 0, 1) := by decide +kernel
theorem d_M_four_12 : decode b_M_four 12 = .ok (.dup, 1) := by decide +kernel
theorem d_M_four_13 : decode b_M_four 13 = .ok (.getfield 610, 3) := by decide +kernel
theorem d_M_four_16 : decode b_M_four 16 = .ok (.dup_x1, 1) := by decide +kernel
theorem d_M_four_17 : decode b_M_four 17 = .ok (.iconst 1, 1) := by decide +kernel
theorem d_M_four_18 : decode b_M_four 18 = .ok (.iadd, 1) := by decide +kernel
theorem d_M_four_19 : decode b_M_four 19 = .ok (.putfield 610, 3) := by decide +kernel
theorem d_M_four_22 : decode b_M_four 22 = .ok (.iload_n 1, 1) := by decide +kernel
theorem d_M_four_23 : decode b_M_four 23 = .ok (.iload_n 2, 1) := by decide +kernel
theorem d_M_four_24 : decode b_M_four 24 = .ok (.ishr, 1) := by decide +kernel
theorem d_M_four_25 : decode b_M_four 25 = .ok (.i2b, 1) := by decide +kernel
theorem d_M_four_26 : decode b_M_four 26 = .ok (.bastore, 1) := by decide +kernel
theorem d_M_four_27 : decode b_M_four 27 = .ok (.iinc 2 (-8), 3) := by decide +kernel
theorem d_M_four_30 : decode b_M_four 30 = .ok (.goto (-27), 3) := by decide +kernel
theorem d_M_four_33 : decode b_M_four 33 = .ok (.return_, 1) := by decide +kernel
theorem d_M_feed_0 : decode b_M_feed 0 = .ok (.aload_n 0, 1) := by decide +kernel
theorem d_M_feed_1 : decode b_M_feed 1 = .ok (.aload_n 0, 1) := by decide +kernel
theorem d_M_feed_2 : decode b_M_feed 2 = .ok (.getfield 610, 3) := by decide +kernel
theorem d_M_feed_5 : decode b_M_feed 5 = .ok (.bipush 20, 2) := by decide +kernel
theorem d_M_feed_7 : decode b_M_feed 7 = .ok (.iadd, 1) := by decide +kernel
theorem d_M_feed_8 : decode b_M_feed 8 = .ok (.sipush 4000, 3) := by decide +kernel
theorem d_M_feed_11 : decode b_M_feed 11 = .ok (.if_icmp .le 7, 3) := by decide +kernel
theorem d_M_feed_18 : decode b_M_feed 18 = .ok (.iconst 0, 1) := by decide +kernel
theorem d_M_feed_19 : decode b_M_feed 19 = .ok (.putfield 81, 3) := by decide +kernel
theorem d_M_feed_22 : decode b_M_feed 22 = .ok (.aload_n 0, 1) := by decide +kernel
theorem d_M_feed_23 : decode b_M_feed 23 = .ok (.getfield 81, 3) := by decide +kernel
theorem d_M_feed_26 : decode b_M_feed 26 = .ok (.ifCond .le 5, 3) := by decide +kernel
theorem d_M_feed_31 : decode b_M_feed 31 = .ok (.aload_n 0, 1) := by decide +kernel
theorem d_M_feed_32 : decode b_M_feed 32 = .ok (.iload_n 1, 1) := by decide +kernel
theorem d_M_feed_33 : decode b_M_feed 33 = .ok (.invokevirtual 613, 3) := by decide +kernel
theorem d_M_feed_36 : decode b_M_feed 36 = .ok (.aload_n 0, 1) := by decide +kernel
theorem d_M_feed_37 : decode b_M_feed 37 = .ok (.iload_n 2, 1) := by decide +kernel
theorem d_M_feed_38 : decode b_M_feed 38 = .ok (.invokevirtual 613, 3) := by decide +kernel
theorem d_M_feed_41 : decode b_M_feed 41 = .ok (.aload_n 0, 1) := by decide +kernel
theorem d_M_feed_42 : decode b_M_feed 42 = .ok (.iload_n 3, 1) := by decide +kernel
theorem d_M_feed_43 : decode b_M_feed 43 = .ok (.invokevirtual 613, 3) := by decide +kernel
theorem d_M_feed_46 : decode b_M_feed 46 = .ok (.aload_n 0, 1) := by decide +kernel
theorem d_M_feed_47 : decode b_M_feed 47 = .ok (.iload 4, 2) := by decide +kernel
theorem d_M_feed_49 : decode b_M_feed 49 = .ok (.invokevirtual 613, 3) := by decide +kernel
theorem d_M_feed_52 : decode b_M_feed 52 = .ok (.aload_n 0, 1) := by decide +kernel
theorem d_M_feed_53 : decode b_M_feed 53 = .ok (.iload 5, 2) := by decide +kernel
theorem d_M_feed_55 : decode b_M_feed 55 = .ok (.invokevirtual 613, 3) := by decide +kernel
theorem d_M_feed_58 : decode b_M_feed 58 = .ok (.aload_n 0, 1) := by decide +kernel
theorem d_M_feed_59 : decode b_M_feed 59 = .ok (.getfield 610, 3) := by decide +kernel
theorem d_M_feed_62 : decode b_M_feed 62 = .ok (.ireturn, 1) := by decide +kernel
theorem d_M_end_0 : decode b_M_end 0 = .ok (.aload_n 0, 1) := by decide +kernel
theorem d_M_end_1 : decode b_M_end 1 = .ok (.iload_n 1, 1) := by decide +kernel
theorem d_M_end_2 : decode b_M_end 2 = .ok (.ifCond .lt 11, 3) := by decide +kernel
theorem d_M_end_5 : decode b_M_end 5 = .ok (.iload_n 1, 1) := by decide +kernel
theorem d_M_end_6 : decode b_M_end 6 = .ok (.aload_n 0, 1) := by decide +kernel
theorem d_M_end_7 : decode b_M_end 7 = .ok (.getfield 610, 3) := by decide +kernel
theorem d_M_end_10 : decode b_M_end 10 = .ok (.if_icmp .le 7, 3) := by decide +kernel
theorem d_M_end_13 : decode b_M_end 13 = .ok (.iconst 1, 1) := by decide +kernel
theorem d_M_end_14 : decode b_M_end 14 = .ok (.goto 4, 3) := by decide +kernel
theorem d_M_end_17 : decode b_M_end 17 = .ok (.iconst 0, 1) := by decide +kernel
theorem d_M_end_18 : decode b_M_end 18 = .ok (.putfield 81, 3) := by decide +kernel
theorem d_M_end_21 : decode b_M_end 21 = .ok (.aload_n 0, 1) := by decide +kernel
theorem d_M_end_22 : decode b_M_end 22 = .ok (.getfield 81, 3) := by decide +kernel
theorem d_M_end_25 : decode b_M_end 25 = .ok (.ifCond .le 5, 3) := by decide +kernel
theorem d_M_end_28 : decode b_M_end 28 = .ok (.iconst 0, 1) := by decide +kernel
theorem d_M_end_29 : decode b_M_end 29 = .ok (.ireturn, 1) := by decide +kernel
theorem d_M_end_30 : decode b_M_end 30 = .ok (.aload_n 0, 1) := by decide +kernel
theorem d_M_end_31 : decode b_M_end 31 = .ok (.iload_n 1, 1) := by decide +kernel
theorem d_M_end_32 : decode b_M_end 32 = .ok (.putfield 610, 3) := by decide +kernel
theorem d_M_end_35 : decode b_M_end 35 = .ok (.iload_n 1, 1) := by decide +kernel
theorem d_M_end_36 : decode b_M_end 36 = .ok (.ireturn, 1) := by decide +kernel
theorem d_M_gone_0 : decode b_M_gone 0 = .ok (.aload_n 0, 1) := by decide +kernel
theorem d_M_gone_1 : decode b_M_gone 1 = .ok (.iconst 0, 1) := by decide +kernel
theorem d_M_gone_2 : decode b_M_gone 2 = .ok (.putfield 616, 3) := by decide +kernel
theorem d_M_gone_5 : decode b_M_gone 5 = .ok (.aload_n 0, 1) := by decide +kernel
theorem d_M_gone_6 : decode b_M_gone 6 = .ok (.iconst 0, 1) := by decide +kernel
theorem d_M_gone_7 : decode b_M_gone 7 = .ok (.putfield 619, 3) := by decide +kernel
theorem d_M_gone_10 : decode b_M_gone 10 = .ok (.aload_n 0, 1) := by decide +kernel
theorem d_M_gone_11 : decode b_M_gone 11 = .ok (.iconst 0, 1) := by decide +kernel
theorem d_M_gone_12 : decode b_M_gone 12 = .ok (.putfield 622, 3) := by decide +kernel
theorem d_M_gone_15 : decode b_M_gone 15 = .ok (.return_, 1) := by decide +kernel
theorem d_M_clear_0 : decode b_M_clear 0 = .ok (.aload_n 0, 1) := by decide +kernel
theorem d_M_clear_1 : decode b_M_clear 1 = .ok (.iconst 0, 1) := by decide +kernel
theorem d_M_clear_2 : decode b_M_clear 2 = .ok (.putfield 81, 3) := by decide +kernel
theorem d_M_clear_5 : decode b_M_clear 5 = .ok (.aload_n 0, 1) := by decide +kernel
theorem d_M_clear_6 : decode b_M_clear 6 = .ok (.getfield 447, 3) := by decide +kernel
theorem d_M_clear_9 : decode b_M_clear 9 = .ok (.istore_n 1, 1) := by decide +kernel
theorem d_M_clear_10 : decode b_M_clear 10 = .ok (.aload_n 0, 1) := by decide +kernel
theorem d_M_clear_11 : decode b_M_clear 11 = .ok (.iconst 0, 1) := by decide +kernel
theorem d_M_clear_12 : decode b_M_clear 12 = .ok (.putfield 447, 3) := by decide +kernel
theorem d_M_clear_15 : decode b_M_clear 15 = .ok (.aload_n 0, 1) := by decide +kernel
theorem d_M_clear_16 : decode b_M_clear 16 = .ok (.invokevirtual 628, 3) := by decide +kernel
theorem d_M_clear_19 : decode b_M_clear 19 = .ok (.iload_n 1, 1) := by decide +kernel
theorem d_M_clear_20 : decode b_M_clear 20 = .ok (.ireturn, 1) := by decide +kernel
theorem d_M_merge_0 : decode b_M_merge 0 = .ok (.aload_n 0, 1) := by decide +kernel
theorem d_M_merge_1 : decode b_M_merge 1 = .ok (.aload_n 0, 1) := by decide +kernel
theorem d_M_merge_2 : decode b_M_merge 2 = .ok (.getfield 447, 3) := by decide +kernel
theorem d_M_merge_5 : decode b_M_merge 5 = .ok (.ifCond .ne 7, 3) := by decide +kernel
theorem d_M_merge_8 : decode b_M_merge 8 = .ok (.iconst 1, 1) := by decide +kernel
theorem d_M_merge_9 : decode b_M_merge 9 = .ok (.goto 4, 3) := by decide +kernel
theorem d_M_merge_13 : decode b_M_merge 13 = .ok (.putfield 81, 3) := by decide +kernel
theorem d_M_merge_16 : decode b_M_merge 16 = .ok (.aload_n 0, 1) := by decide +kernel
theorem d_M_merge_17 : decode b_M_merge 17 = .ok (.getfield 81, 3) := by decide +kernel
theorem d_M_merge_20 : decode b_M_merge 20 = .ok (.ifCond .le 5, 3) := by decide +kernel
theorem d_M_merge_23 : decode b_M_merge 23 = .ok (.iconst 0, 1) := by decide +kernel
theorem d_M_merge_24 : decode b_M_merge 24 = .ok (.ireturn, 1) := by decide +kernel
theorem d_M_begin_0 : decode b_M_begin 0 = .ok (.aload_n 0, 1) := by decide +kernel
theorem d_M_begin_1 : decode b_M_begin 1 = .ok (.aload_n 0, 1) := by decide +kernel
theorem d_M_begin_2 : decode b_M_begin 2 = .ok (.getfield 616, 3) := by decide +kernel
theorem d_M_begin_5 : decode b_M_begin 5 = .ok (.ifCond .eq 7, 3) := by decide +kernel
theorem d_M_begin_12 : decode b_M_begin 12 = .ok (.iconst 1, 1) := by decide +kernel
theorem d_M_begin_13 : decode b_M_begin 13 = .ok (.putfield 81, 3) := by decide +kernel
theorem d_M_begin_16 : decode b_M_begin 16 = .ok (.aload_n 0, 1) := by decide +kernel
theorem d_M_begin_17 : decode b_M_begin 17 = .ok (.getfield 81, 3) := by decide +kernel
theorem d_M_begin_20 : decode b_M_begin 20 = .ok (.ifCond .le 5, 3) := by decide +kernel
theorem d_M_begin_23 : decode b_M_begin 23 = .ok (.iconst 0, 1) := by decide +kernel
theorem d_M_begin_24 : decode b_M_begin 24 = .ok (.ireturn, 1) := by decide +kernel
theorem d_M_argument_0 : decode b_M_argument 0 = .ok (.aload_n 0, 1) := by decide +kernel
theorem d_M_argument_1 : decode b_M_argument 1 = .ok (.aload_n 0, 1) := by decide +kernel
theorem d_M_argument_2 : decode b_M_argument 2 = .ok (.getfield 622, 3) := by decide +kernel
theorem d_M_argument_5 : decode b_M_argument 5 = .ok (.bipush 6, 2) := by decide +kernel
theorem d_M_argument_7 : decode b_M_argument 7 = .ok (.if_icmp .ne 7, 3) := by decide +kernel
theorem d_M_argument_14 : decode b_M_argument 14 = .ok (.iconst 0, 1) := by decide +kernel
theorem d_M_argument_15 : decode b_M_argument 15 = .ok (.putfield 81, 3) := by decide +kernel
theorem d_M_argument_18 : decode b_M_argument 18 = .ok (.aload_n 0, 1) := by decide +kernel
theorem d_M_argument_19 : decode b_M_argument 19 = .ok (.getfield 81, 3) := by decide +kernel
theorem d_M_argument_22 : decode b_M_argument 22 = .ok (.ifCond .le 5, 3) := by decide +kernel
theorem d_M_argument_27 : decode b_M_argument 27 = .ok (.aload_n 0, 1) := by decide +kernel
theorem d_M_argument_28 : decode b_M_argument 28 = .ok (.getfield 56, 3) := by decide +kernel
theorem d_M_argument_31 : decode b_M_argument 31 = .ok (.aload_n 0, 1) := by decide +kernel
theorem d_M_argument_32 : decode b_M_argument 32 = .ok (.getfield 622, 3) := by decide +kernel
theorem d_M_argument_35 : decode b_M_argument 35 = .ok (.lload_n 1, 1) := by decide +kernel
theorem d_M_argument_36 : decode b_M_argument 36 = .ok (.lastore, 1) := by decide +kernel
theorem d_M_argument_37 : decode b_M_argument 37 = .ok (.aload_n 0, 1) := by decide +kernel
theorem d_M_argument_38 : decode b_M_argument 38 = .ok (.dup, 1) := by decide +kernel
theorem d_M_argument_39 : decode b_M_argument 39 = .ok (.getfield 622, 3) := by decide +kernel
theorem d_M_argument_42 : decode b_M_argument 42 = .ok (.iconst 1, 1) := by decide +kernel
theorem d_M_argument_43 : decode b_M_argument 43 = .ok (.iadd, 1) := by decide +kernel
theorem d_M_argument_44 : decode b_M_argument 44 = .ok (.putfield 622, 3) := by decide +kernel
theorem d_M_argument_47 : decode b_M_argument 47 = .ok (.aload_n 0, 1) := by decide +kernel
theorem d_M_argument_48 : decode b_M_argument 48 = .ok (.getfield 622, 3) := by decide +kernel
theorem d_M_argument_51 : decode b_M_argument 51 = .ok (.ireturn, 1) := by decide +kernel
theorem d_M_isExport_0 : decode b_M_isExport 0 = .ok (.aload_n 0, 1) := by decide +kernel
theorem d_M_isExport_1 : decode b_M_isExport 1 = .ok (.aload_n 0, 1) := by decide +kernel
theorem d_M_isExport_2 : decode b_M_isExport 2 = .ok (.getfield 619, 3) := by decide +kernel
theorem d_M_isExport_5 : decode b_M_isExport 5 = .ok (.ifCond .ne 7, 3) := by decide +kernel
theorem d_M_isExport_8 : decode b_M_isExport 8 = .ok (.iconst 1, 1) := by decide +kernel
theorem d_M_isExport_9 : decode b_M_isExport 9 = .ok (.goto 56, 3) := by decide +kernel
theorem d_M_isExport_65 : decode b_M_isExport 65 = .ok (.putfield 81, 3) := by decide +kernel
theorem d_M_isExport_68 : decode b_M_isExport 68 = .ok (.aload_n 0, 1) := by decide +kernel
theorem d_M_isExport_69 : decode b_M_isExport 69 = .ok (.getfield 81, 3) := by decide +kernel
theorem d_M_isExport_72 : decode b_M_isExport 72 = .ok (.ifCond .ne 7, 3) := by decide +kernel
theorem d_M_isExport_79 : decode b_M_isExport 79 = .ok (.iconst 0, 1) := by decide +kernel
theorem d_M_isExport_80 : decode b_M_isExport 80 = .ok (.ireturn, 1) := by decide +kernel
theorem d_M_call_0 : decode b_M_call 0 = .ok (.aload_n 0, 1) := by decide +kernel
theorem d_M_call_1 : decode b_M_call 1 = .ok (.iload_n 1, 1) := by decide +kernel
theorem d_M_call_2 : decode b_M_call 2 = .ok (.iload_n 2, 1) := by decide +kernel
theorem d_M_call_3 : decode b_M_call 3 = .ok (.iconst 0, 1) := by decide +kernel
theorem d_M_call_4 : decode b_M_call 4 = .ok (.invokevirtual 659, 3) := by decide +kernel
theorem d_M_call_7 : decode b_M_call 7 = .ok (.ifCond .ne 5, 3) := by decide +kernel
theorem d_M_call_10 : decode b_M_call 10 = .ok (.lconst 0, 1) := by decide +kernel
theorem d_M_call_11 : decode b_M_call 11 = .ok (.lreturn, 1) := by decide +kernel
theorem d_M_fault_0 : decode b_M_fault 0 = .ok (.aload_n 0, 1) := by decide +kernel
theorem d_M_fault_1 : decode b_M_fault 1 = .ok (.iconst 0, 1) := by decide +kernel
theorem d_M_fault_2 : decode b_M_fault 2 = .ok (.putfield 81, 3) := by decide +kernel
theorem d_M_fault_5 : decode b_M_fault 5 = .ok (.aload_n 0, 1) := by decide +kernel
theorem d_M_fault_6 : decode b_M_fault 6 = .ok (.getfield 625, 3) := by decide +kernel
theorem d_M_fault_9 : decode b_M_fault 9 = .ok (.ireturn, 1) := by decide +kernel
theorem d_M_trap_0 : decode b_M_trap 0 = .ok (.aload_n 0, 1) := by decide +kernel
theorem d_M_trap_1 : decode b_M_trap 1 = .ok (.iconst 0, 1) := by decide +kernel
theorem d_M_trap_2 : decode b_M_trap 2 = .ok (.putfield 81, 3) := by decide +kernel
theorem d_M_trap_5 : decode b_M_trap 5 = .ok (.aload_n 0, 1) := by decide +kernel
theorem d_M_trap_6 : decode b_M_trap 6 = .ok (.getfield 653, 3) := by decide +kernel
theorem d_M_trap_9 : decode b_M_trap 9 = .ok (.ireturn, 1) := by decide +kernel
theorem d_M_take_0 : decode b_M_take 0 = .ok (.aload_n 0, 1) := by decide +kernel
theorem d_M_take_1 : decode b_M_take 1 = .ok (.iconst 0, 1) := by decide +kernel
theorem d_M_take_2 : decode b_M_take 2 = .ok (.putfield 81, 3) := by decide +kernel
theorem d_M_take_5 : decode b_M_take 5 = .ok (.aload_n 0, 1) := by decide +kernel
theorem d_M_take_6 : decode b_M_take 6 = .ok (.getfield 478, 3) := by decide +kernel
theorem d_M_take_9 : decode b_M_take 9 = .ok (.ifCond .ne 5, 3) := by decide +kernel
theorem d_M_take_12 : decode b_M_take 12 = .ok (.lconst 0, 1) := by decide +kernel
theorem d_M_take_13 : decode b_M_take 13 = .ok (.lreturn, 1) := by decide +kernel
theorem d_M_memory_0 : decode b_M_memory 0 = .ok (.aload_n 0, 1) := by decide +kernel
theorem d_M_memory_1 : decode b_M_memory 1 = .ok (.aload_n 0, 1) := by decide +kernel
theorem d_M_memory_2 : decode b_M_memory 2 = .ok (.getfield 619, 3) := by decide +kernel
theorem d_M_memory_5 : decode b_M_memory 5 = .ok (.ifCond .eq 7, 3) := by decide +kernel
theorem d_M_memory_12 : decode b_M_memory 12 = .ok (.iconst 1, 1) := by decide +kernel
theorem d_M_memory_13 : decode b_M_memory 13 = .ok (.putfield 81, 3) := by decide +kernel
theorem d_M_memory_16 : decode b_M_memory 16 = .ok (.aload_n 0, 1) := by decide +kernel
theorem d_M_memory_17 : decode b_M_memory 17 = .ok (.getfield 81, 3) := by decide +kernel
theorem d_M_memory_20 : decode b_M_memory 20 = .ok (.ifCond .le 5, 3) := by decide +kernel
theorem d_M_memory_23 : decode b_M_memory 23 = .ok (.iconst 0, 1) := by decide +kernel
theorem d_M_memory_24 : decode b_M_memory 24 = .ok (.ireturn, 1) := by decide +kernel
theorem d_M_global_0 : decode b_M_global 0 = .ok (.aload_n 0, 1) := by decide +kernel
theorem d_M_global_1 : decode b_M_global 1 = .ok (.iload_n 1, 1) := by decide +kernel
theorem d_M_global_2 : decode b_M_global 2 = .ok (.iload_n 2, 1) := by decide +kernel
theorem d_M_global_3 : decode b_M_global 3 = .ok (.iconst 3, 1) := by decide +kernel
theorem d_M_global_4 : decode b_M_global 4 = .ok (.invokevirtual 659, 3) := by decide +kernel
theorem d_M_global_7 : decode b_M_global 7 = .ok (.ifCond .ne 5, 3) := by decide +kernel
theorem d_M_global_10 : decode b_M_global 10 = .ok (.lconst 0, 1) := by decide +kernel
theorem d_M_global_11 : decode b_M_global 11 = .ok (.lreturn, 1) := by decide +kernel
theorem d_M_told_0 : decode b_M_told 0 = .ok (.aload_n 0, 1) := by decide +kernel
theorem d_M_told_1 : decode b_M_told 1 = .ok (.iload_n 1, 1) := by decide +kernel
theorem d_M_told_2 : decode b_M_told 2 = .ok (.ifCond .lt 11, 3) := by decide +kernel
theorem d_M_told_5 : decode b_M_told 5 = .ok (.iload_n 1, 1) := by decide +kernel
theorem d_M_told_6 : decode b_M_told 6 = .ok (.aload_n 0, 1) := by decide +kernel
theorem d_M_told_7 : decode b_M_told 7 = .ok (.getfield 447, 3) := by decide +kernel
theorem d_M_told_10 : decode b_M_told 10 = .ok (.if_icmp .lt 7, 3) := by decide +kernel
theorem d_M_told_13 : decode b_M_told 13 = .ok (.iconst 1, 1) := by decide +kernel
theorem d_M_told_14 : decode b_M_told 14 = .ok (.goto 40, 3) := by decide +kernel
theorem d_M_told_54 : decode b_M_told 54 = .ok (.putfield 81, 3) := by decide +kernel
theorem d_M_told_57 : decode b_M_told 57 = .ok (.aload_n 0, 1) := by decide +kernel
theorem d_M_told_58 : decode b_M_told 58 = .ok (.getfield 81, 3) := by decide +kernel
theorem d_M_told_61 : decode b_M_told 61 = .ok (.ifCond .le 5, 3) := by decide +kernel
theorem d_M_told_64 : decode b_M_told 64 = .ok (.iconst 0, 1) := by decide +kernel
theorem d_M_told_65 : decode b_M_told 65 = .ok (.ireturn, 1) := by decide +kernel
theorem d_M_count_0 : decode b_M_count 0 = .ok (.aload_n 0, 1) := by decide +kernel
theorem d_M_count_1 : decode b_M_count 1 = .ok (.aload_n 0, 1) := by decide +kernel
theorem d_M_count_2 : decode b_M_count 2 = .ok (.getfield 616, 3) := by decide +kernel
theorem d_M_count_5 : decode b_M_count 5 = .ok (.ifCond .ne 7, 3) := by decide +kernel
theorem d_M_count_8 : decode b_M_count 8 = .ok (.iconst 1, 1) := by decide +kernel
theorem d_M_count_9 : decode b_M_count 9 = .ok (.goto 18, 3) := by decide +kernel
theorem d_M_count_27 : decode b_M_count 27 = .ok (.putfield 81, 3) := by decide +kernel
theorem d_M_count_30 : decode b_M_count 30 = .ok (.aload_n 0, 1) := by decide +kernel
theorem d_M_count_31 : decode b_M_count 31 = .ok (.getfield 81, 3) := by decide +kernel
theorem d_M_count_34 : decode b_M_count 34 = .ok (.ifCond .le 5, 3) := by decide +kernel
theorem d_M_count_37 : decode b_M_count 37 = .ok (.iconst 0, 1) := by decide +kernel
theorem d_M_count_38 : decode b_M_count 38 = .ok (.ireturn, 1) := by decide +kernel
theorem d_M_check_0 : decode b_M_check 0 = .ok (.aload_n 0, 1) := by decide +kernel
theorem d_M_check_1 : decode b_M_check 1 = .ok (.aload_n 0, 1) := by decide +kernel
theorem d_M_check_2 : decode b_M_check 2 = .ok (.getfield 616, 3) := by decide +kernel
theorem d_M_check_5 : decode b_M_check 5 = .ok (.ifCond .eq 7, 3) := by decide +kernel
theorem d_M_check_12 : decode b_M_check 12 = .ok (.iconst 1, 1) := by decide +kernel
theorem d_M_check_13 : decode b_M_check 13 = .ok (.putfield 81, 3) := by decide +kernel
theorem d_M_check_16 : decode b_M_check 16 = .ok (.iconst 0, 1) := by decide +kernel
theorem d_M_check_17 : decode b_M_check 17 = .ok (.ireturn, 1) := by decide +kernel
theorem d_M_thrown_0 : decode b_M_thrown 0 = .ok (.aload_n 0, 1) := by decide +kernel
theorem d_M_thrown_1 : decode b_M_thrown 1 = .ok (.getfield 81, 3) := by decide +kernel
theorem d_M_thrown_4 : decode b_M_thrown 4 = .ok (.ireturn, 1) := by decide +kernel
theorem d_jThrowable_init_0 : decode b_jThrowable_init 0 = .ok (.aload_n 0, 1) := by decide +kernel
theorem d_jThrowable_init_1 : decode b_jThrowable_init 1 = .ok (.invokespecial 1, 3) := by decide +kernel
theorem d_jThrowable_init_4 : decode b_jThrowable_init 4 = .ok (.aload_n 0, 1) := by decide +kernel
theorem d_jThrowable_init_5 : decode b_jThrowable_init 5 = .ok (.aload_n 0, 1) := by decide +kernel
theorem d_jThrowable_init_6 : decode b_jThrowable_init 6 = .ok (.putfield 7, 3) := by decide +kernel
theorem d_jThrowable_init_9 : decode b_jThrowable_init 9 = .ok (.aload_n 0, 1) := by decide +kernel
theorem d_jThrowable_init_10 : decode b_jThrowable_init 10 = .ok (.getstatic 13, 3) := by decide +kernel
theorem d_jThrowable_init_13 : decode b_jThrowable_init 13 = .ok (.putfield 17, 3) := by decide +kernel
theorem d_jThrowable_init_16 : decode b_jThrowable_init 16 = .ok (.aload_n 0, 1) := by decide +kernel
theorem d_jThrowable_init_17 : decode b_jThrowable_init 17 = .ok (.getstatic 20, 3) := by decide +kernel
theorem d_jThrowable_init_20 : decode b_jThrowable_init 20 = .ok (.putfield 24, 3) := by decide +kernel
theorem d_jThrowable_init_23 : decode b_jThrowable_init 23 = .ok (.iload 4, 2) := by decide +kernel
theorem d_jThrowable_init_25 : decode b_jThrowable_init 25 = .ok (.ifCond .eq 11, 3) := by decide +kernel
theorem d_jThrowable_init_36 : decode b_jThrowable_init 36 = .ok (.aload_n 0, 1) := by decide +kernel
theorem d_jThrowable_init_37 : decode b_jThrowable_init 37 = .ok (.aconst_null, 1) := by decide +kernel
theorem d_jThrowable_init_38 : decode b_jThrowable_init 38 = .ok (.putfield 17, 3) := by decide +kernel
theorem d_jThrowable_init_41 : decode b_jThrowable_init 41 = .ok (.aload_n 0, 1) := by decide +kernel
theorem d_jThrowable_init_42 : decode b_jThrowable_init 42 = .ok (.aload_n 1, 1) := by decide +kernel
theorem d_jThrowable_init_43 : decode b_jThrowable_init 43 = .ok (.putfield 31, 3) := by decide +kernel
theorem d_jThrowable_init_46 : decode b_jThrowable_init 46 = .ok (.aload_n 0, 1) := by decide +kernel
theorem d_jThrowable_init_47 : decode b_jThrowable_init 47 = .ok (.aload_n 2, 1) := by decide +kernel
theorem d_jThrowable_init_48 : decode b_jThrowable_init 48 = .ok (.putfield 7, 3) := by decide +kernel
theorem d_jThrowable_init_51 : decode b_jThrowable_init 51 = .ok (.iload_n 3, 1) := by decide +kernel
theorem d_jThrowable_init_52 : decode b_jThrowable_init 52 = .ok (.ifCond .ne 8, 3) := by decide +kernel
theorem d_jThrowable_init_55 : decode b_jThrowable_init 55 = .ok (.aload_n 0, 1) := by decide +kernel
theorem d_jThrowable_init_56 : decode b_jThrowable_init 56 = .ok (.aconst_null, 1) := by decide +kernel
theorem d_jThrowable_init_57 : decode b_jThrowable_init 57 = .ok (.putfield 24, 3) := by decide +kernel
theorem d_jThrowable_init_60 : decode b_jThrowable_init 60 = .ok (.return_, 1) := by decide +kernel
theorem d_jException_init_0 : decode b_jException_init 0 = .ok (.aload_n 0, 1) := by decide +kernel
theorem d_jException_init_1 : decode b_jException_init 1 = .ok (.aload_n 1, 1) := by decide +kernel
theorem d_jException_init_2 : decode b_jException_init 2 = .ok (.aload_n 2, 1) := by decide +kernel
theorem d_jException_init_3 : decode b_jException_init 3 = .ok (.iload_n 3, 1) := by decide +kernel
theorem d_jException_init_4 : decode b_jException_init 4 = .ok (.iload 4, 2) := by decide +kernel
theorem d_jException_init_6 : decode b_jException_init 6 = .ok (.invokespecial 16, 3) := by decide +kernel
theorem d_jException_init_9 : decode b_jException_init 9 = .ok (.return_, 1) := by decide +kernel
theorem d_jRuntimeException_init_0 : decode b_jRuntimeException_init 0 = .ok (.aload_n 0, 1) := by decide +kernel
theorem d_jRuntimeException_init_1 : decode b_jRuntimeException_init 1 = .ok (.aload_n 1, 1) := by decide +kernel
theorem d_jRuntimeException_init_2 : decode b_jRuntimeException_init 2 = .ok (.aload_n 2, 1) := by decide +kernel
theorem d_jRuntimeException_init_3 : decode b_jRuntimeException_init 3 = .ok (.iload_n 3, 1) := by decide +kernel
theorem d_jRuntimeException_init_4 : decode b_jRuntimeException_init 4 = .ok (.iload 4, 2) := by decide +kernel
theorem d_jRuntimeException_init_6 : decode b_jRuntimeException_init 6 = .ok (.invokespecial 16, 3) := by decide +kernel
theorem d_jRuntimeException_init_9 : decode b_jRuntimeException_init 9 = .ok (.return_, 1) := by decide +kernel
theorem d_MStop_init_0 : decode b_MStop_init 0 = .ok (.aload_n 0, 1) := by decide +kernel
theorem d_MStop_init_1 : decode b_MStop_init 1 = .ok (.aconst_null, 1) := by decide +kernel
theorem d_MStop_init_2 : decode b_MStop_init 2 = .ok (.aconst_null, 1) := by decide +kernel
theorem d_MStop_init_3 : decode b_MStop_init 3 = .ok (.iconst 0, 1) := by decide +kernel
theorem d_MStop_init_4 : decode b_MStop_init 4 = .ok (.iconst 0, 1) := by decide +kernel
theorem d_MStop_init_5 : decode b_MStop_init 5 = .ok (.invokespecial 1, 3) := by decide +kernel
theorem d_MStop_init_8 : decode b_MStop_init 8 = .ok (.aload_n 0, 1) := by decide +kernel
theorem d_MStop_init_9 : decode b_MStop_init 9 = .ok (.iload_n 1, 1) := by decide +kernel
theorem d_MStop_init_10 : decode b_MStop_init 10 = .ok (.putfield 7, 3) := by decide +kernel
theorem d_MStop_init_13 : decode b_MStop_init 13 = .ok (.return_, 1) := by decide +kernel
theorem d_M_one_0 : decode b_M_one 0 = .ok (.aload_n 0, 1) := by decide +kernel
theorem d_M_one_1 : decode b_M_one 1 = .ok (.getfield 85, 3) := by decide +kernel
theorem d_M_one_4 : decode b_M_one 4 = .ok (.aload_n 0, 1) := by decide +kernel
theorem d_M_one_5 : decode b_M_one 5 = .ok (.getfield 88, 3) := by decide +kernel
theorem d_M_one_8 : decode b_M_one 8 = .ok (.if_icmp .lt 12, 3) := by decide +kernel
theorem d_M_one_11 : decode b_M_one 11 = .ok (.new 91, 3) := by decide +kernel
theorem d_M_one_14 : decode b_M_one 14 = .ok (.dup, 1) := by decide +kernel
theorem d_M_one_15 : decode b_M_one 15 = .ok (.iconst 1, 1) := by decide +kernel
theorem d_M_one_16 : decode b_M_one 16 = .ok (.invokespecial 93, 3) := by decide +kernel
theorem d_M_one_19 : decode b_M_one 19 = .ok (.athrow, 1) := by decide +kernel
theorem d_M_read_0 : decode b_M_read 0 = .ok (.aload_n 0, 1) := by decide +kernel
theorem d_M_read_1 : decode b_M_read 1 = .ok (.aload_n 1, 1) := by decide +kernel
theorem d_M_read_2 : decode b_M_read 2 = .ok (.putfield 96, 3) := by decide +kernel
theorem d_M_read_5 : decode b_M_read 5 = .ok (.aload_n 0, 1) := by decide +kernel
theorem d_M_read_6 : decode b_M_read 6 = .ok (.iconst 0, 1) := by decide +kernel
theorem d_M_read_7 : decode b_M_read 7 = .ok (.putfield 85, 3) := by decide +kernel
theorem d_M_read_10 : decode b_M_read 10 = .ok (.aload_n 0, 1) := by decide +kernel
theorem d_M_read_11 : decode b_M_read 11 = .ok (.aload_n 1, 1) := by decide +kernel
theorem d_M_read_12 : decode b_M_read 12 = .ok (.getfield 137, 3) := by decide +kernel
theorem d_M_read_15 : decode b_M_read 15 = .ok (.putfield 88, 3) := by decide +kernel
theorem d_M_read_18 : decode b_M_read 18 = .ok (.aload_n 0, 1) := by decide +kernel
theorem d_M_read_19 : decode b_M_read 19 = .ok (.iconst 0, 1) := by decide +kernel
theorem d_M_read_20 : decode b_M_read 20 = .ok (.putfield 116, 3) := by decide +kernel
theorem d_M_read_23 : decode b_M_read 23 = .ok (.aload_n 0, 1) := by decide +kernel
theorem d_M_read_24 : decode b_M_read 24 = .ok (.iconst 0, 1) := by decide +kernel
theorem d_M_read_25 : decode b_M_read 25 = .ok (.putfield 140, 3) := by decide +kernel
theorem d_M_read_28 : decode b_M_read 28 = .ok (.aload_n 1, 1) := by decide +kernel
theorem d_M_read_29 : decode b_M_read 29 = .ok (.iconst 0, 1) := by decide +kernel
theorem d_M_read_30 : decode b_M_read 30 = .ok (.putfield 143, 3) := by decide +kernel
theorem d_M_read_33 : decode b_M_read 33 = .ok (.aload_n 1, 1) := by decide +kernel
theorem d_M_read_34 : decode b_M_read 34 = .ok (.iconst 0, 1) := by decide +kernel
theorem d_M_read_35 : decode b_M_read 35 = .ok (.putfield 146, 3) := by decide +kernel
theorem d_M_read_38 : decode b_M_read 38 = .ok (.aload_n 1, 1) := by decide +kernel
theorem d_M_read_39 : decode b_M_read 39 = .ok (.iconst 0, 1) := by decide +kernel
theorem d_M_read_40 : decode b_M_read 40 = .ok (.putfield 149, 3) := by decide +kernel
theorem d_M_read_43 : decode b_M_read 43 = .ok (.aload_n 1, 1) := by decide +kernel
theorem d_M_read_44 : decode b_M_read 44 = .ok (.iconst 0, 1) := by decide +kernel
theorem d_M_read_45 : decode b_M_read 45 = .ok (.putfield 152, 3) := by decide +kernel
theorem d_M_read_48 : decode b_M_read 48 = .ok (.aload_n 1, 1) := by decide +kernel
theorem d_M_read_49 : decode b_M_read 49 = .ok (.iconst 0, 1) := by decide +kernel
theorem d_M_read_50 : decode b_M_read 50 = .ok (.putfield 155, 3) := by decide +kernel
theorem d_M_read_53 : decode b_M_read 53 = .ok (.aload_n 1, 1) := by decide +kernel
theorem d_M_read_54 : decode b_M_read 54 = .ok (.iconst 0, 1) := by decide +kernel
theorem d_M_read_55 : decode b_M_read 55 = .ok (.putfield 158, 3) := by decide +kernel
theorem d_M_read_58 : decode b_M_read 58 = .ok (.aload_n 1, 1) := by decide +kernel
theorem d_M_read_59 : decode b_M_read 59 = .ok (.iconst 0, 1) := by decide +kernel
theorem d_M_read_60 : decode b_M_read 60 = .ok (.putfield 161, 3) := by decide +kernel
theorem d_M_read_63 : decode b_M_read 63 = .ok (.aload_n 1, 1) := by decide +kernel
theorem d_M_read_64 : decode b_M_read 64 = .ok (.iconst 0, 1) := by decide +kernel
theorem d_M_read_65 : decode b_M_read 65 = .ok (.putfield 163, 3) := by decide +kernel
theorem d_M_read_68 : decode b_M_read 68 = .ok (.aload_n 1, 1) := by decide +kernel
theorem d_M_read_69 : decode b_M_read 69 = .ok (.iconst 0, 1) := by decide +kernel
theorem d_M_read_70 : decode b_M_read 70 = .ok (.putfield 166, 3) := by decide +kernel
theorem d_M_read_73 : decode b_M_read 73 = .ok (.aload_n 1, 1) := by decide +kernel
theorem d_M_read_74 : decode b_M_read 74 = .ok (.iconst 0, 1) := by decide +kernel
theorem d_M_read_75 : decode b_M_read 75 = .ok (.putfield 169, 3) := by decide +kernel
theorem d_M_read_78 : decode b_M_read 78 = .ok (.aload_n 1, 1) := by decide +kernel
theorem d_M_read_79 : decode b_M_read 79 = .ok (.iconst 0, 1) := by decide +kernel
theorem d_M_read_80 : decode b_M_read 80 = .ok (.putfield 172, 3) := by decide +kernel
theorem d_M_read_83 : decode b_M_read 83 = .ok (.aload_n 1, 1) := by decide +kernel
theorem d_M_read_84 : decode b_M_read 84 = .ok (.iconst (-1), 1) := by decide +kernel
theorem d_M_read_85 : decode b_M_read 85 = .ok (.putfield 175, 3) := by decide +kernel
theorem d_M_read_88 : decode b_M_read 88 = .ok (.aload_n 1, 1) := by decide +kernel
theorem d_M_read_89 : decode b_M_read 89 = .ok (.iconst (-1), 1) := by decide +kernel
theorem d_M_read_90 : decode b_M_read 90 = .ok (.putfield 178, 3) := by decide +kernel
theorem d_M_read_93 : decode b_M_read 93 = .ok (.aload_n 1, 1) := by decide +kernel
theorem d_M_read_94 : decode b_M_read 94 = .ok (.iconst (-1), 1) := by decide +kernel
theorem d_M_read_95 : decode b_M_read 95 = .ok (.putfield 181, 3) := by decide +kernel
theorem d_M_read_98 : decode b_M_read 98 = .ok (.bipush 8, 2) := by decide +kernel
theorem d_M_read_100 : decode b_M_read 100 = .ok (.newarray .int, 2) := by decide +kernel
theorem d_M_read_102 : decode b_M_read 102 = .ok (.dup, 1) := by decide +kernel
theorem d_M_read_103 : decode b_M_read 103 = .ok (.iconst 0, 1) := by decide +kernel
theorem d_M_read_104 : decode b_M_read 104 = .ok (.iconst 0, 1) := by decide +kernel
theorem d_M_read_105 : decode b_M_read 105 = .ok (.iastore, 1) := by decide +kernel
theorem d_M_read_106 : decode b_M_read 106 = .ok (.dup, 1) := by decide +kernel
theorem d_M_read_107 : decode b_M_read 107 = .ok (.iconst 1, 1) := by decide +kernel
theorem d_M_read_108 : decode b_M_read 108 = .ok (.bipush 97, 2) := by decide +kernel
theorem d_M_read_110 : decode b_M_read 110 = .ok (.iastore, 1) := by decide +kernel
theorem d_M_read_111 : decode b_M_read 111 = .ok (.dup, 1) := by decide +kernel
theorem d_M_read_112 : decode b_M_read 112 = .ok (.iconst 2, 1) := by decide +kernel
theorem d_M_read_113 : decode b_M_read 113 = .ok (.bipush 115, 2) := by decide +kernel
theorem d_M_read_115 : decode b_M_read 115 = .ok (.iastore, 1) := by decide +kernel
theorem d_M_read_116 : decode b_M_read 116 = .ok (.dup, 1) := by decide +kernel
theorem d_M_read_117 : decode b_M_read 117 = .ok (.iconst 3, 1) := by decide +kernel
theorem d_M_read_118 : decode b_M_read 118 = .ok (.bipush 109, 2) := by decide +kernel
theorem d_M_read_120 : decode b_M_read 120 = .ok (.iastore, 1) := by decide +kernel
theorem d_M_read_121 : decode b_M_read 121 = .ok (.dup, 1) := by decide +kernel
theorem d_M_read_122 : decode b_M_read 122 = .ok (.iconst 4, 1) := by decide +kernel
theorem d_M_read_123 : decode b_M_read 123 = .ok (.iconst 1, 1) := by decide +kernel
theorem d_M_read_124 : decode b_M_read 124 = .ok (.iastore, 1) := by decide +kernel
theorem d_M_read_125 : decode b_M_read 125 = .ok (.dup, 1) := by decide +kernel
theorem d_M_read_126 : decode b_M_read 126 = .ok (.iconst 5, 1) := by decide +kernel
theorem d_M_read_127 : decode b_M_read 127 = .ok (.iconst 0, 1) := by decide +kernel
theorem d_M_read_128 : decode b_M_read 128 = .ok (.iastore, 1) := by decide +kernel
theorem d_M_read_129 : decode b_M_read 129 = .ok (.dup, 1) := by decide +kernel
theorem d_M_read_130 : decode b_M_read 130 = .ok (.bipush 6, 2) := by decide +kernel
theorem d_M_read_132 : decode b_M_read 132 = .ok (.iconst 0, 1) := by decide +kernel
theorem d_M_read_133 : decode b_M_read 133 = .ok (.iastore, 1) := by decide +kernel
theorem d_M_read_134 : decode b_M_read 134 = .ok (.dup, 1) := by decide +kernel
theorem d_M_read_135 : decode b_M_read 135 = .ok (.bipush 7, 2) := by decide +kernel
theorem d_M_read_137 : decode b_M_read 137 = .ok (.iconst 0, 1) := by decide +kernel
theorem d_M_read_138 : decode b_M_read 138 = .ok (.iastore, 1) := by decide +kernel
theorem d_M_read_139 : decode b_M_read 139 = .ok (.astore_n 2, 1) := by decide +kernel
theorem d_M_read_140 : decode b_M_read 140 = .ok (.iconst 0, 1) := by decide +kernel
theorem d_M_read_141 : decode b_M_read 141 = .ok (.istore_n 3, 1) := by decide +kernel
theorem d_M_read_142 : decode b_M_read 142 = .ok (.iload_n 3, 1) := by decide +kernel
theorem d_M_read_143 : decode b_M_read 143 = .ok (.bipush 8, 2) := by decide +kernel
theorem d_M_read_145 : decode b_M_read 145 = .ok (.if_icmp .ge 28, 3) := by decide +kernel
theorem d_M_read_148 : decode b_M_read 148 = .ok (.aload_n 0, 1) := by decide +kernel
theorem d_M_read_149 : decode b_M_read 149 = .ok (.invokevirtual 103, 3) := by decide +kernel
theorem d_M_add_0 : decode b_M_add 0 = .ok (.aload_n 0, 1) := by decide +kernel
theorem d_M_add_1 : decode b_M_add 1 = .ok (.aload_n 0, 1) := by decide +kernel
theorem d_M_add_2 : decode b_M_add 2 = .ok (.getfield 447, 3) := by decide +kernel
theorem d_M_add_5 : decode b_M_add 5 = .ok (.bipush 6, 2) := by decide +kernel
theorem d_M_add_7 : decode b_M_add 7 = .ok (.if_icmp .ne 7, 3) := by decide +kernel
theorem d_M_add_14 : decode b_M_add 14 = .ok (.iconst 0, 1) := by decide +kernel
theorem d_M_add_15 : decode b_M_add 15 = .ok (.putfield 81, 3) := by decide +kernel
theorem d_M_add_18 : decode b_M_add 18 = .ok (.aload_n 0, 1) := by decide +kernel
theorem d_M_add_19 : decode b_M_add 19 = .ok (.getfield 81, 3) := by decide +kernel
theorem d_M_add_22 : decode b_M_add 22 = .ok (.ifCond .le 5, 3) := by decide +kernel
theorem d_M_add_27 : decode b_M_add 27 = .ok (.aload_n 0, 1) := by decide +kernel
theorem d_M_add_28 : decode b_M_add 28 = .ok (.getfield 16, 3) := by decide +kernel
theorem d_M_add_31 : decode b_M_add 31 = .ok (.aload_n 0, 1) := by decide +kernel
theorem d_M_add_32 : decode b_M_add 32 = .ok (.getfield 447, 3) := by decide +kernel
theorem d_M_add_35 : decode b_M_add 35 = .ok (.aaload, 1) := by decide +kernel
theorem d_M_add_36 : decode b_M_add 36 = .ok (.astore_n 1, 1) := by decide +kernel
theorem d_M_add_37 : decode b_M_add 37 = .ok (.aload_n 0, 1) := by decide +kernel
theorem d_M_add_38 : decode b_M_add 38 = .ok (.getfield 9, 3) := by decide +kernel
theorem d_M_add_41 : decode b_M_add 41 = .ok (.iconst 0, 1) := by decide +kernel
theorem d_M_add_42 : decode b_M_add 42 = .ok (.aload_n 1, 1) := by decide +kernel
theorem d_M_add_43 : decode b_M_add 43 = .ok (.getfield 100, 3) := by decide +kernel
theorem d_M_add_46 : decode b_M_add 46 = .ok (.iconst 0, 1) := by decide +kernel
theorem d_M_add_47 : decode b_M_add 47 = .ok (.aload_n 0, 1) := by decide +kernel
theorem d_M_add_48 : decode b_M_add 48 = .ok (.getfield 610, 3) := by decide +kernel
theorem d_M_add_51 : decode b_M_add 51 = .ok (.invokestatic 510, 3) := by decide +kernel
theorem d_M_add_54 : decode b_M_add 54 = .ok (.aload_n 1, 1) := by decide +kernel
theorem d_M_add_55 : decode b_M_add 55 = .ok (.aload_n 0, 1) := by decide +kernel
theorem d_M_add_56 : decode b_M_add 56 = .ok (.getfield 610, 3) := by decide +kernel
theorem d_M_add_59 : decode b_M_add 59 = .ok (.putfield 137, 3) := by decide +kernel
theorem d_M_add_62 : decode b_M_add 62 = .ok (.aload_n 0, 1) := by decide +kernel
theorem d_M_add_63 : decode b_M_add 63 = .ok (.iconst 0, 1) := by decide +kernel
theorem d_M_add_64 : decode b_M_add 64 = .ok (.putfield 610, 3) := by decide +kernel
theorem d_M_add_67 : decode b_M_add 67 = .ok (.aload_n 0, 1) := by decide +kernel
theorem d_M_add_68 : decode b_M_add 68 = .ok (.iconst 0, 1) := by decide +kernel
theorem d_M_add_69 : decode b_M_add 69 = .ok (.putfield 625, 3) := by decide +kernel
theorem d_M_add_72 : decode b_M_add 72 = .ok (.aload_n 0, 1) := by decide +kernel
theorem d_M_add_73 : decode b_M_add 73 = .ok (.invokevirtual 628, 3) := by decide +kernel
theorem d_M_add_76 : decode b_M_add 76 = .ok (.aload_n 0, 1) := by decide +kernel
theorem d_M_add_77 : decode b_M_add 77 = .ok (.aload_n 1, 1) := by decide +kernel
theorem d_M_add_78 : decode b_M_add 78 = .ok (.invokevirtual 631, 3) := by decide +kernel
theorem d_M_add_111 : decode b_M_add 111 = .ok (.astore_n 2, 1) := by decide +kernel
theorem d_M_add_112 : decode b_M_add 112 = .ok (.aload_n 0, 1) := by decide +kernel
theorem d_M_add_113 : decode b_M_add 113 = .ok (.aload_n 2, 1) := by decide +kernel
theorem d_M_add_114 : decode b_M_add 114 = .ok (.getfield 641, 3) := by decide +kernel
theorem d_M_add_117 : decode b_M_add 117 = .ok (.putfield 625, 3) := by decide +kernel
theorem d_M_add_120 : decode b_M_add 120 = .ok (.aload_n 0, 1) := by decide +kernel
theorem d_M_add_121 : decode b_M_add 121 = .ok (.iconst 2, 1) := by decide +kernel
theorem d_M_add_122 : decode b_M_add 122 = .ok (.putfield 81, 3) := by decide +kernel
theorem d_M_add_125 : decode b_M_add 125 = .ok (.iconst 0, 1) := by decide +kernel
theorem d_M_add_126 : decode b_M_add 126 = .ok (.ireturn, 1) := by decide +kernel
theorem d_L_feed_0 : decode b_L_feed 0 = .ok (.aload 6, 2) := by decide +kernel
theorem d_L_feed_2 : decode b_L_feed 2 = .ok (.iconst 0, 1) := by decide +kernel
theorem d_L_feed_3 : decode b_L_feed 3 = .ok (.aload_n 0, 1) := by decide +kernel
theorem d_L_feed_4 : decode b_L_feed 4 = .ok (.iload_n 1, 1) := by decide +kernel
theorem d_L_feed_5 : decode b_L_feed 5 = .ok (.iload_n 2, 1) := by decide +kernel
theorem d_L_feed_6 : decode b_L_feed 6 = .ok (.iload_n 3, 1) := by decide +kernel
theorem d_L_feed_7 : decode b_L_feed 7 = .ok (.iload 4, 2) := by decide +kernel
theorem d_L_feed_9 : decode b_L_feed 9 = .ok (.iload 5, 2) := by decide +kernel
theorem d_L_feed_11 : decode b_L_feed 11 = .ok (.invokevirtual 7, 3) := by decide +kernel
theorem d_L_feed_14 : decode b_L_feed 14 = .ok (.i2l, 1) := by decide +kernel
theorem d_L_feed_15 : decode b_L_feed 15 = .ok (.lastore, 1) := by decide +kernel
theorem d_L_feed_16 : decode b_L_feed 16 = .ok (.goto 7, 3) := by decide +kernel
theorem d_L_feed_23 : decode b_L_feed 23 = .ok (.iconst 0, 1) := by decide +kernel
theorem d_L_feed_24 : decode b_L_feed 24 = .ok (.ireturn, 1) := by decide +kernel
theorem d_L_end_0 : decode b_L_end 0 = .ok (.aload_n 2, 1) := by decide +kernel
theorem d_L_end_1 : decode b_L_end 1 = .ok (.iconst 0, 1) := by decide +kernel
theorem d_L_end_2 : decode b_L_end 2 = .ok (.aload_n 0, 1) := by decide +kernel
theorem d_L_end_3 : decode b_L_end 3 = .ok (.iload_n 1, 1) := by decide +kernel
theorem d_L_end_4 : decode b_L_end 4 = .ok (.invokevirtual 15, 3) := by decide +kernel
theorem d_L_end_7 : decode b_L_end 7 = .ok (.i2l, 1) := by decide +kernel
theorem d_L_end_8 : decode b_L_end 8 = .ok (.lastore, 1) := by decide +kernel
theorem d_L_end_9 : decode b_L_end 9 = .ok (.goto 6, 3) := by decide +kernel
theorem d_L_end_12 : decode b_L_end 12 = .ok (.astore_n 3, 1) := by decide +kernel
theorem d_L_end_13 : decode b_L_end 13 = .ok (.iconst 1, 1) := by decide +kernel
theorem d_L_end_14 : decode b_L_end 14 = .ok (.ireturn, 1) := by decide +kernel
theorem d_L_end_15 : decode b_L_end 15 = .ok (.iconst 0, 1) := by decide +kernel
theorem d_L_end_16 : decode b_L_end 16 = .ok (.ireturn, 1) := by decide +kernel
theorem d_L_add_0 : decode b_L_add 0 = .ok (.aload_n 1, 1) := by decide +kernel
theorem d_L_add_1 : decode b_L_add 1 = .ok (.iconst 0, 1) := by decide +kernel
theorem d_L_add_2 : decode b_L_add 2 = .ok (.aload_n 0, 1) := by decide +kernel
theorem d_L_add_3 : decode b_L_add 3 = .ok (.invokevirtual 21, 3) := by decide +kernel
theorem d_L_add_14 : decode b_L_add 14 = .ok (.astore_n 2, 1) := by decide +kernel
theorem d_L_add_15 : decode b_L_add 15 = .ok (.iconst 2, 1) := by decide +kernel
theorem d_L_add_16 : decode b_L_add 16 = .ok (.ireturn, 1) := by decide +kernel
theorem d_L_merge_0 : decode b_L_merge 0 = .ok (.aload_n 1, 1) := by decide +kernel
theorem d_L_merge_1 : decode b_L_merge 1 = .ok (.iconst 0, 1) := by decide +kernel
theorem d_L_merge_2 : decode b_L_merge 2 = .ok (.aload_n 0, 1) := by decide +kernel
theorem d_L_merge_3 : decode b_L_merge 3 = .ok (.invokevirtual 27, 3) := by decide +kernel
theorem d_L_merge_11 : decode b_L_merge 11 = .ok (.astore_n 2, 1) := by decide +kernel
theorem d_L_merge_12 : decode b_L_merge 12 = .ok (.iconst 1, 1) := by decide +kernel
theorem d_L_merge_13 : decode b_L_merge 13 = .ok (.ireturn, 1) := by decide +kernel
theorem d_L_begin_0 : decode b_L_begin 0 = .ok (.aload_n 1, 1) := by decide +kernel
theorem d_L_begin_1 : decode b_L_begin 1 = .ok (.iconst 0, 1) := by decide +kernel
theorem d_L_begin_2 : decode b_L_begin 2 = .ok (.aload_n 0, 1) := by decide +kernel
theorem d_L_begin_3 : decode b_L_begin 3 = .ok (.invokevirtual 30, 3) := by decide +kernel
theorem d_L_begin_11 : decode b_L_begin 11 = .ok (.astore_n 2, 1) := by decide +kernel
theorem d_L_begin_12 : decode b_L_begin 12 = .ok (.iconst 1, 1) := by decide +kernel
theorem d_L_begin_13 : decode b_L_begin 13 = .ok (.ireturn, 1) := by decide +kernel
theorem d_L_argument_0 : decode b_L_argument 0 = .ok (.aload_n 3, 1) := by decide +kernel
theorem d_L_argument_1 : decode b_L_argument 1 = .ok (.iconst 0, 1) := by decide +kernel
theorem d_L_argument_2 : decode b_L_argument 2 = .ok (.aload_n 0, 1) := by decide +kernel
theorem d_L_argument_3 : decode b_L_argument 3 = .ok (.lload_n 1, 1) := by decide +kernel
theorem d_L_argument_4 : decode b_L_argument 4 = .ok (.invokevirtual 35, 3) := by decide +kernel
theorem d_L_argument_7 : decode b_L_argument 7 = .ok (.i2l, 1) := by decide +kernel
theorem d_L_argument_8 : decode b_L_argument 8 = .ok (.lastore, 1) := by decide +kernel
theorem d_L_argument_9 : decode b_L_argument 9 = .ok (.goto 7, 3) := by decide +kernel
theorem d_L_argument_16 : decode b_L_argument 16 = .ok (.iconst 0, 1) := by decide +kernel
theorem d_L_argument_17 : decode b_L_argument 17 = .ok (.ireturn, 1) := by decide +kernel
theorem d_L_call_0 : decode b_L_call 0 = .ok (.aload_n 3, 1) := by decide +kernel
theorem d_L_call_1 : decode b_L_call 1 = .ok (.iconst 0, 1) := by decide +kernel
theorem d_L_call_2 : decode b_L_call 2 = .ok (.aload_n 0, 1) := by decide +kernel
theorem d_L_call_3 : decode b_L_call 3 = .ok (.iload_n 1, 1) := by decide +kernel
theorem d_L_call_4 : decode b_L_call 4 = .ok (.iload_n 2, 1) := by decide +kernel
theorem d_L_call_5 : decode b_L_call 5 = .ok (.invokevirtual 39, 3) := by decide +kernel
theorem d_L_call_12 : decode b_L_call 12 = .ok (.astore 4, 2) := by decide +kernel
theorem d_L_call_14 : decode b_L_call 14 = .ok (.iconst 1, 1) := by decide +kernel
theorem d_L_call_15 : decode b_L_call 15 = .ok (.ireturn, 1) := by decide +kernel
theorem d_L_memory_0 : decode b_L_memory 0 = .ok (.aload_n 2, 1) := by decide +kernel
theorem d_L_memory_1 : decode b_L_memory 1 = .ok (.iconst 0, 1) := by decide +kernel
theorem d_L_memory_2 : decode b_L_memory 2 = .ok (.aload_n 0, 1) := by decide +kernel
theorem d_L_memory_3 : decode b_L_memory 3 = .ok (.iload_n 1, 1) := by decide +kernel
theorem d_L_memory_4 : decode b_L_memory 4 = .ok (.invokevirtual 45, 3) := by decide +kernel
theorem d_L_memory_12 : decode b_L_memory 12 = .ok (.astore_n 3, 1) := by decide +kernel
theorem d_L_memory_13 : decode b_L_memory 13 = .ok (.iconst 1, 1) := by decide +kernel
theorem d_L_memory_14 : decode b_L_memory 14 = .ok (.ireturn, 1) := by decide +kernel
theorem d_L_global_0 : decode b_L_global 0 = .ok (.aload_n 3, 1) := by decide +kernel
theorem d_L_global_1 : decode b_L_global 1 = .ok (.iconst 0, 1) := by decide +kernel
theorem d_L_global_2 : decode b_L_global 2 = .ok (.aload_n 0, 1) := by decide +kernel
theorem d_L_global_3 : decode b_L_global 3 = .ok (.iload_n 1, 1) := by decide +kernel
theorem d_L_global_4 : decode b_L_global 4 = .ok (.iload_n 2, 1) := by decide +kernel
theorem d_L_global_5 : decode b_L_global 5 = .ok (.invokevirtual 48, 3) := by decide +kernel
theorem d_L_global_12 : decode b_L_global 12 = .ok (.astore 4, 2) := by decide +kernel
theorem d_L_global_14 : decode b_L_global 14 = .ok (.iconst 1, 1) := by decide +kernel
theorem d_L_global_15 : decode b_L_global 15 = .ok (.ireturn, 1) := by decide +kernel
theorem d_L_told_0 : decode b_L_told 0 = .ok (.aload_n 3, 1) := by decide +kernel
theorem d_L_told_1 : decode b_L_told 1 = .ok (.iconst 0, 1) := by decide +kernel
theorem d_L_told_2 : decode b_L_told 2 = .ok (.aload_n 0, 1) := by decide +kernel
theorem d_L_told_3 : decode b_L_told 3 = .ok (.iload_n 1, 1) := by decide +kernel
theorem d_L_told_4 : decode b_L_told 4 = .ok (.iload_n 2, 1) := by decide +kernel
theorem d_L_told_5 : decode b_L_told 5 = .ok (.invokevirtual 51, 3) := by decide +kernel
theorem d_L_told_13 : decode b_L_told 13 = .ok (.astore 4, 2) := by decide +kernel
theorem d_L_told_15 : decode b_L_told 15 = .ok (.iconst 1, 1) := by decide +kernel
theorem d_L_told_16 : decode b_L_told 16 = .ok (.ireturn, 1) := by decide +kernel
theorem d_L_count_0 : decode b_L_count 0 = .ok (.aload_n 2, 1) := by decide +kernel
theorem d_L_count_1 : decode b_L_count 1 = .ok (.iconst 0, 1) := by decide +kernel
theorem d_L_count_2 : decode b_L_count 2 = .ok (.aload_n 0, 1) := by decide +kernel
theorem d_L_count_3 : decode b_L_count 3 = .ok (.iload_n 1, 1) := by decide +kernel
theorem d_L_count_4 : decode b_L_count 4 = .ok (.invokevirtual 55, 3) := by decide +kernel
theorem d_L_count_12 : decode b_L_count 12 = .ok (.astore_n 3, 1) := by decide +kernel
theorem d_L_count_13 : decode b_L_count 13 = .ok (.iconst 1, 1) := by decide +kernel
theorem d_L_count_14 : decode b_L_count 14 = .ok (.ireturn, 1) := by decide +kernel
theorem d_L_check_0 : decode b_L_check 0 = .ok (.aload_n 1, 1) := by decide +kernel
theorem d_L_check_1 : decode b_L_check 1 = .ok (.iconst 0, 1) := by decide +kernel
theorem d_L_check_2 : decode b_L_check 2 = .ok (.aload_n 0, 1) := by decide +kernel
theorem d_L_check_3 : decode b_L_check 3 = .ok (.invokevirtual 58, 3) := by decide +kernel
theorem d_L_check_11 : decode b_L_check 11 = .ok (.astore_n 2, 1) := by decide +kernel
theorem d_L_check_12 : decode b_L_check 12 = .ok (.iconst 1, 1) := by decide +kernel
theorem d_L_check_13 : decode b_L_check 13 = .ok (.ireturn, 1) := by decide +kernel
theorem d_L_law_0 : decode b_L_law 0 = .ok (.new 8, 3) := by decide +kernel
theorem d_L_law_3 : decode b_L_law 3 = .ok (.dup, 1) := by decide +kernel
theorem d_L_law_4 : decode b_L_law 4 = .ok (.invokespecial 61, 3) := by decide +kernel
theorem d_L_law_7 : decode b_L_law 7 = .ok (.astore_n 1, 1) := by decide +kernel
theorem d_L_law_8 : decode b_L_law 8 = .ok (.new 62, 3) := by decide +kernel
theorem d_L_law_11 : decode b_L_law 11 = .ok (.dup, 1) := by decide +kernel
theorem d_L_law_12 : decode b_L_law 12 = .ok (.invokespecial 64, 3) := by decide +kernel
theorem d_L_law_15 : decode b_L_law 15 = .ok (.astore_n 2, 1) := by decide +kernel
theorem d_L_law_16 : decode b_L_law 16 = .ok (.iconst 1, 1) := by decide +kernel
theorem d_L_law_17 : decode b_L_law 17 = .ok (.newarray .long, 2) := by decide +kernel
theorem d_L_law_19 : decode b_L_law 19 = .ok (.astore_n 3, 1) := by decide +kernel
theorem d_L_law_20 : decode b_L_law 20 = .ok (.iconst 0, 1) := by decide +kernel
theorem d_L_law_21 : decode b_L_law 21 = .ok (.istore 4, 2) := by decide +kernel
theorem d_L_law_23 : decode b_L_law 23 = .ok (.iload 4, 2) := by decide +kernel
theorem d_L_law_25 : decode b_L_law 25 = .ok (.aload_n 0, 1) := by decide +kernel
theorem d_L_law_26 : decode b_L_law 26 = .ok (.arraylength, 1) := by decide +kernel
theorem d_L_law_27 : decode b_L_law 27 = .ok (.bipush 6, 2) := by decide +kernel
theorem d_L_law_29 : decode b_L_law 29 = .ok (.isub, 1) := by decide +kernel
theorem d_L_law_30 : decode b_L_law 30 = .ok (.if_icmp .gt 887, 3) := by decide +kernel
theorem d_L_law_33 : decode b_L_law 33 = .ok (.aload_n 0, 1) := by decide +kernel
theorem d_L_law_34 : decode b_L_law 34 = .ok (.iload 4, 2) := by decide +kernel
theorem d_L_law_36 : decode b_L_law 36 = .ok (.iaload, 1) := by decide +kernel
theorem d_L_law_37 : decode b_L_law 37 = .ok (.bipush 15, 2) := by decide +kernel
theorem d_L_law_39 : decode b_L_law 39 = .ok (.iand, 1) := by decide +kernel
theorem d_L_law_40 : decode b_L_law 40 = .ok (.tableswitch 871 0 15 #[80, 184, 240, 284, 297, 341, 385, 473, 540, 553, 566, 580, 636, 703, 771, 827], 80) := by decide +kernel
theorem d_L_law_120 : decode b_L_law 120 = .ok (.aload_n 1, 1) := by decide +kernel
theorem d_L_law_121 : decode b_L_law 121 = .ok (.aload_n 0, 1) := by decide +kernel
theorem d_L_law_122 : decode b_L_law 122 = .ok (.iload 4, 2) := by decide +kernel
theorem d_L_law_124 : decode b_L_law 124 = .ok (.iconst 1, 1) := by decide +kernel
theorem d_L_law_125 : decode b_L_law 125 = .ok (.iadd, 1) := by decide +kernel
theorem d_L_law_126 : decode b_L_law 126 = .ok (.iaload, 1) := by decide +kernel
theorem d_L_law_127 : decode b_L_law 127 = .ok (.aload_n 0, 1) := by decide +kernel
theorem d_L_law_128 : decode b_L_law 128 = .ok (.iload 4, 2) := by decide +kernel
theorem d_L_law_130 : decode b_L_law 130 = .ok (.iconst 2, 1) := by decide +kernel
theorem d_L_law_131 : decode b_L_law 131 = .ok (.iadd, 1) := by decide +kernel
theorem d_L_law_132 : decode b_L_law 132 = .ok (.iaload, 1) := by decide +kernel
theorem d_L_law_133 : decode b_L_law 133 = .ok (.aload_n 0, 1) := by decide +kernel
theorem d_L_law_134 : decode b_L_law 134 = .ok (.iload 4, 2) := by decide +kernel
theorem d_L_law_136 : decode b_L_law 136 = .ok (.iconst 3, 1) := by decide +kernel
theorem d_L_law_137 : decode b_L_law 137 = .ok (.iadd, 1) := by decide +kernel
theorem d_L_law_138 : decode b_L_law 138 = .ok (.iaload, 1) := by decide +kernel
theorem d_L_law_139 : decode b_L_law 139 = .ok (.aload_n 0, 1) := by decide +kernel
theorem d_L_law_140 : decode b_L_law 140 = .ok (.iload 4, 2) := by decide +kernel
theorem d_L_law_142 : decode b_L_law 142 = .ok (.iconst 4, 1) := by decide +kernel
theorem d_L_law_143 : decode b_L_law 143 = .ok (.iadd, 1) := by decide +kernel
theorem d_L_law_144 : decode b_L_law 144 = .ok (.iaload, 1) := by decide +kernel
theorem d_L_law_145 : decode b_L_law 145 = .ok (.aload_n 0, 1) := by decide +kernel
theorem d_L_law_146 : decode b_L_law 146 = .ok (.iload 4, 2) := by decide +kernel
theorem d_L_law_148 : decode b_L_law 148 = .ok (.iconst 5, 1) := by decide +kernel
theorem d_L_law_149 : decode b_L_law 149 = .ok (.iadd, 1) := by decide +kernel
theorem d_L_law_150 : decode b_L_law 150 = .ok (.iaload, 1) := by decide +kernel
theorem d_L_law_151 : decode b_L_law 151 = .ok (.aload_n 3, 1) := by decide +kernel
theorem d_L_law_152 : decode b_L_law 152 = .ok (.invokestatic 65, 3) := by decide +kernel
theorem d_L_law_155 : decode b_L_law 155 = .ok (.istore 5, 2) := by decide +kernel
theorem d_L_law_157 : decode b_L_law 157 = .ok (.aload_n 2, 1) := by decide +kernel
theorem d_L_law_158 : decode b_L_law 158 = .ok (.aload_n 0, 1) := by decide +kernel
theorem d_L_law_159 : decode b_L_law 159 = .ok (.iload 4, 2) := by decide +kernel
theorem d_L_law_161 : decode b_L_law 161 = .ok (.iconst 1, 1) := by decide +kernel
theorem d_L_law_162 : decode b_L_law 162 = .ok (.iadd, 1) := by decide +kernel
theorem d_L_law_163 : decode b_L_law 163 = .ok (.iaload, 1) := by decide +kernel
theorem d_L_law_164 : decode b_L_law 164 = .ok (.aload_n 0, 1) := by decide +kernel
theorem d_L_law_165 : decode b_L_law 165 = .ok (.iload 4, 2) := by decide +kernel
theorem d_L_law_167 : decode b_L_law 167 = .ok (.iconst 2, 1) := by decide +kernel
theorem d_L_law_168 : decode b_L_law 168 = .ok (.iadd, 1) := by decide +kernel
theorem d_L_law_169 : decode b_L_law 169 = .ok (.iaload, 1) := by decide +kernel
theorem d_L_law_170 : decode b_L_law 170 = .ok (.aload_n 0, 1) := by decide +kernel
theorem d_L_law_171 : decode b_L_law 171 = .ok (.iload 4, 2) := by decide +kernel
theorem d_L_law_173 : decode b_L_law 173 = .ok (.iconst 3, 1) := by decide +kernel
theorem d_L_law_174 : decode b_L_law 174 = .ok (.iadd, 1) := by decide +kernel
theorem d_L_law_175 : decode b_L_law 175 = .ok (.iaload, 1) := by decide +kernel
theorem d_L_law_176 : decode b_L_law 176 = .ok (.aload_n 0, 1) := by decide +kernel
theorem d_L_law_177 : decode b_L_law 177 = .ok (.iload 4, 2) := by decide +kernel
theorem d_L_law_179 : decode b_L_law 179 = .ok (.iconst 4, 1) := by decide +kernel
theorem d_L_law_180 : decode b_L_law 180 = .ok (.iadd, 1) := by decide +kernel
theorem d_L_law_181 : decode b_L_law 181 = .ok (.iaload, 1) := by decide +kernel
theorem d_L_law_182 : decode b_L_law 182 = .ok (.aload_n 0, 1) := by decide +kernel
theorem d_L_law_183 : decode b_L_law 183 = .ok (.iload 4, 2) := by decide +kernel
theorem d_L_law_185 : decode b_L_law 185 = .ok (.iconst 5, 1) := by decide +kernel
theorem d_L_law_186 : decode b_L_law 186 = .ok (.iadd, 1) := by decide +kernel
theorem d_L_law_187 : decode b_L_law 187 = .ok (.iaload, 1) := by decide +kernel
theorem d_L_law_188 : decode b_L_law 188 = .ok (.invokevirtual 70, 3) := by decide +kernel
theorem d_L_law_191 : decode b_L_law 191 = .ok (.istore 6, 2) := by decide +kernel
theorem d_L_law_193 : decode b_L_law 193 = .ok (.aload_n 2, 1) := by decide +kernel
theorem d_L_law_194 : decode b_L_law 194 = .ok (.invokevirtual 71, 3) := by decide +kernel
theorem d_L_law_197 : decode b_L_law 197 = .ok (.iload 5, 2) := by decide +kernel
theorem d_L_law_199 : decode b_L_law 199 = .ok (.if_icmp .eq 5, 3) := by decide +kernel
theorem d_L_law_204 : decode b_L_law 204 = .ok (.iload 5, 2) := by decide +kernel
theorem d_L_law_206 : decode b_L_law 206 = .ok (.ifCond .ne 15, 3) := by decide +kernel
theorem d_L_law_209 : decode b_L_law 209 = .ok (.aload_n 3, 1) := by decide +kernel
theorem d_L_law_210 : decode b_L_law 210 = .ok (.iconst 0, 1) := by decide +kernel
theorem d_L_law_211 : decode b_L_law 211 = .ok (.laload, 1) := by decide +kernel
theorem d_L_law_212 : decode b_L_law 212 = .ok (.iload 6, 2) := by decide +kernel
theorem d_L_law_214 : decode b_L_law 214 = .ok (.i2l, 1) := by decide +kernel
theorem d_L_law_215 : decode b_L_law 215 = .ok (.lcmp, 1) := by decide +kernel
theorem d_L_law_216 : decode b_L_law 216 = .ok (.ifCond .eq 5, 3) := by decide +kernel
theorem d_L_law_221 : decode b_L_law 221 = .ok (.goto 690, 3) := by decide +kernel
theorem d_L_law_224 : decode b_L_law 224 = .ok (.aload_n 1, 1) := by decide +kernel
theorem d_L_law_225 : decode b_L_law 225 = .ok (.aload_n 0, 1) := by decide +kernel
theorem d_L_law_226 : decode b_L_law 226 = .ok (.iload 4, 2) := by decide +kernel
theorem d_L_law_228 : decode b_L_law 228 = .ok (.iconst 1, 1) := by decide +kernel
theorem d_L_law_229 : decode b_L_law 229 = .ok (.iadd, 1) := by decide +kernel
theorem d_L_law_230 : decode b_L_law 230 = .ok (.iaload, 1) := by decide +kernel
theorem d_L_law_231 : decode b_L_law 231 = .ok (.aload_n 3, 1) := by decide +kernel
theorem d_L_law_232 : decode b_L_law 232 = .ok (.invokestatic 74, 3) := by decide +kernel
theorem d_L_law_235 : decode b_L_law 235 = .ok (.istore 5, 2) := by decide +kernel
theorem d_L_law_237 : decode b_L_law 237 = .ok (.aload_n 2, 1) := by decide +kernel
theorem d_L_law_238 : decode b_L_law 238 = .ok (.aload_n 0, 1) := by decide +kernel
theorem d_L_law_239 : decode b_L_law 239 = .ok (.iload 4, 2) := by decide +kernel
theorem d_L_law_241 : decode b_L_law 241 = .ok (.iconst 1, 1) := by decide +kernel
theorem d_L_law_242 : decode b_L_law 242 = .ok (.iadd, 1) := by decide +kernel
theorem d_L_law_243 : decode b_L_law 243 = .ok (.iaload, 1) := by decide +kernel
theorem d_L_law_244 : decode b_L_law 244 = .ok (.invokevirtual 77, 3) := by decide +kernel
theorem d_L_law_247 : decode b_L_law 247 = .ok (.istore 6, 2) := by decide +kernel
theorem d_L_law_249 : decode b_L_law 249 = .ok (.aload_n 2, 1) := by decide +kernel
theorem d_L_law_250 : decode b_L_law 250 = .ok (.invokevirtual 71, 3) := by decide +kernel
theorem d_L_law_253 : decode b_L_law 253 = .ok (.iload 5, 2) := by decide +kernel
theorem d_L_law_255 : decode b_L_law 255 = .ok (.if_icmp .eq 5, 3) := by decide +kernel
theorem d_L_law_260 : decode b_L_law 260 = .ok (.iload 5, 2) := by decide +kernel
theorem d_L_law_262 : decode b_L_law 262 = .ok (.ifCond .ne 15, 3) := by decide +kernel
theorem d_L_law_265 : decode b_L_law 265 = .ok (.aload_n 3, 1) := by decide +kernel
theorem d_L_law_266 : decode b_L_law 266 = .ok (.iconst 0, 1) := by decide +kernel
theorem d_L_law_267 : decode b_L_law 267 = .ok (.laload, 1) := by decide +kernel
theorem d_L_law_268 : decode b_L_law 268 = .ok (.iload 6, 2) := by decide +kernel
theorem d_L_law_270 : decode b_L_law 270 = .ok (.i2l, 1) := by decide +kernel
theorem d_L_law_271 : decode b_L_law 271 = .ok (.lcmp, 1) := by decide +kernel
theorem d_L_law_272 : decode b_L_law 272 = .ok (.ifCond .eq 5, 3) := by decide +kernel
theorem d_L_law_277 : decode b_L_law 277 = .ok (.goto 634, 3) := by decide +kernel
theorem d_L_law_280 : decode b_L_law 280 = .ok (.aload_n 1, 1) := by decide +kernel
theorem d_L_law_281 : decode b_L_law 281 = .ok (.aload_n 3, 1) := by decide +kernel
theorem d_L_law_282 : decode b_L_law 282 = .ok (.invokestatic 78, 3) := by decide +kernel
theorem d_L_law_285 : decode b_L_law 285 = .ok (.istore 5, 2) := by decide +kernel
theorem d_L_law_287 : decode b_L_law 287 = .ok (.aload_n 2, 1) := by decide +kernel
theorem d_L_law_288 : decode b_L_law 288 = .ok (.invokevirtual 81, 3) := by decide +kernel
theorem d_L_law_291 : decode b_L_law 291 = .ok (.istore 6, 2) := by decide +kernel
theorem d_L_law_293 : decode b_L_law 293 = .ok (.aload_n 2, 1) := by decide +kernel
theorem d_L_law_294 : decode b_L_law 294 = .ok (.invokevirtual 71, 3) := by decide +kernel
theorem d_L_law_297 : decode b_L_law 297 = .ok (.iload 5, 2) := by decide +kernel
theorem d_L_law_299 : decode b_L_law 299 = .ok (.if_icmp .eq 5, 3) := by decide +kernel
theorem d_L_law_304 : decode b_L_law 304 = .ok (.iload 5, 2) := by decide +kernel
theorem d_L_law_306 : decode b_L_law 306 = .ok (.ifCond .ne 15, 3) := by decide +kernel
theorem d_L_law_321 : decode b_L_law 321 = .ok (.goto 590, 3) := by decide +kernel
theorem d_L_law_324 : decode b_L_law 324 = .ok (.aload_n 1, 1) := by decide +kernel
theorem d_L_law_325 : decode b_L_law 325 = .ok (.invokevirtual 82, 3) := by decide +kernel
theorem d_L_law_328 : decode b_L_law 328 = .ok (.aload_n 2, 1) := by decide +kernel
theorem d_L_law_329 : decode b_L_law 329 = .ok (.invokevirtual 85, 3) := by decide +kernel
theorem d_L_law_332 : decode b_L_law 332 = .ok (.if_icmp .eq 579, 3) := by decide +kernel
theorem d_L_law_337 : decode b_L_law 337 = .ok (.aload_n 1, 1) := by decide +kernel
theorem d_L_law_338 : decode b_L_law 338 = .ok (.aload_n 3, 1) := by decide +kernel
theorem d_L_law_339 : decode b_L_law 339 = .ok (.invokestatic 86, 3) := by decide +kernel
theorem d_L_law_342 : decode b_L_law 342 = .ok (.istore 5, 2) := by decide +kernel
theorem d_L_law_344 : decode b_L_law 344 = .ok (.aload_n 2, 1) := by decide +kernel
theorem d_L_law_345 : decode b_L_law 345 = .ok (.invokevirtual 88, 3) := by decide +kernel
theorem d_L_law_348 : decode b_L_law 348 = .ok (.istore 6, 2) := by decide +kernel
theorem d_L_law_350 : decode b_L_law 350 = .ok (.aload_n 2, 1) := by decide +kernel
theorem d_L_law_351 : decode b_L_law 351 = .ok (.invokevirtual 71, 3) := by decide +kernel
theorem d_L_law_354 : decode b_L_law 354 = .ok (.iload 5, 2) := by decide +kernel
theorem d_L_law_356 : decode b_L_law 356 = .ok (.if_icmp .eq 5, 3) := by decide +kernel
theorem d_L_law_361 : decode b_L_law 361 = .ok (.iload 5, 2) := by decide +kernel
theorem d_L_law_363 : decode b_L_law 363 = .ok (.ifCond .ne 15, 3) := by decide +kernel
theorem d_L_law_378 : decode b_L_law 378 = .ok (.goto 533, 3) := by decide +kernel
theorem d_L_law_381 : decode b_L_law 381 = .ok (.aload_n 1, 1) := by decide +kernel
theorem d_L_law_382 : decode b_L_law 382 = .ok (.aload_n 3, 1) := by decide +kernel
theorem d_L_law_383 : decode b_L_law 383 = .ok (.invokestatic 89, 3) := by decide +kernel
theorem d_L_law_386 : decode b_L_law 386 = .ok (.istore 5, 2) := by decide +kernel
theorem d_L_law_388 : decode b_L_law 388 = .ok (.aload_n 2, 1) := by decide +kernel
theorem d_L_law_389 : decode b_L_law 389 = .ok (.invokevirtual 91, 3) := by decide +kernel
theorem d_L_law_392 : decode b_L_law 392 = .ok (.istore 6, 2) := by decide +kernel
theorem d_L_law_394 : decode b_L_law 394 = .ok (.aload_n 2, 1) := by decide +kernel
theorem d_L_law_395 : decode b_L_law 395 = .ok (.invokevirtual 71, 3) := by decide +kernel
theorem d_L_law_398 : decode b_L_law 398 = .ok (.iload 5, 2) := by decide +kernel
theorem d_L_law_400 : decode b_L_law 400 = .ok (.if_icmp .eq 5, 3) := by decide +kernel
theorem d_L_law_405 : decode b_L_law 405 = .ok (.iload 5, 2) := by decide +kernel
theorem d_L_law_407 : decode b_L_law 407 = .ok (.ifCond .ne 15, 3) := by decide +kernel
theorem d_L_law_422 : decode b_L_law 422 = .ok (.goto 489, 3) := by decide +kernel
theorem d_L_law_425 : decode b_L_law 425 = .ok (.aload_n 1, 1) := by decide +kernel
theorem d_L_law_426 : decode b_L_law 426 = .ok (.aload_n 0, 1) := by decide +kernel
theorem d_L_law_427 : decode b_L_law 427 = .ok (.iload 4, 2) := by decide +kernel
theorem d_L_law_429 : decode b_L_law 429 = .ok (.iconst 1, 1) := by decide +kernel
theorem d_L_law_430 : decode b_L_law 430 = .ok (.iadd, 1) := by decide +kernel
theorem d_L_law_431 : decode b_L_law 431 = .ok (.iaload, 1) := by decide +kernel
theorem d_L_law_432 : decode b_L_law 432 = .ok (.i2l, 1) := by decide +kernel
theorem d_L_law_433 : decode b_L_law 433 = .ok (.bipush 32, 2) := by decide +kernel
theorem d_L_law_435 : decode b_L_law 435 = .ok (.lshl, 1) := by decide +kernel
theorem d_L_law_436 : decode b_L_law 436 = .ok (.aload_n 0, 1) := by decide +kernel
theorem d_L_law_437 : decode b_L_law 437 = .ok (.iload 4, 2) := by decide +kernel
theorem d_L_law_439 : decode b_L_law 439 = .ok (.iconst 2, 1) := by decide +kernel
theorem d_L_law_440 : decode b_L_law 440 = .ok (.iadd, 1) := by decide +kernel
theorem d_L_law_441 : decode b_L_law 441 = .ok (.iaload, 1) := by decide +kernel
theorem d_L_law_442 : decode b_L_law 442 = .ok (.i2l, 1) := by decide +kernel
theorem d_L_law_443 : decode b_L_law 443 = .ok (.ldc2_w 92, 3) := by decide +kernel
theorem d_L_law_446 : decode b_L_law 446 = .ok (.land, 1) := by decide +kernel
theorem d_L_law_447 : decode b_L_law 447 = .ok (.lor, 1) := by decide +kernel
theorem d_L_law_448 : decode b_L_law 448 = .ok (.aload_n 3, 1) := by decide +kernel
theorem d_L_law_449 : decode b_L_law 449 = .ok (.invokestatic 94, 3) := by decide +kernel
theorem d_L_law_452 : decode b_L_law 452 = .ok (.istore 5, 2) := by decide +kernel
theorem d_L_law_454 : decode b_L_law 454 = .ok (.aload_n 2, 1) := by decide +kernel
theorem d_L_law_455 : decode b_L_law 455 = .ok (.aload_n 0, 1) := by decide +kernel
theorem d_L_law_456 : decode b_L_law 456 = .ok (.iload 4, 2) := by decide +kernel
theorem d_L_law_458 : decode b_L_law 458 = .ok (.iconst 1, 1) := by decide +kernel
theorem d_L_law_459 : decode b_L_law 459 = .ok (.iadd, 1) := by decide +kernel
theorem d_L_law_460 : decode b_L_law 460 = .ok (.iaload, 1) := by decide +kernel
theorem d_L_law_461 : decode b_L_law 461 = .ok (.i2l, 1) := by decide +kernel
theorem d_L_law_462 : decode b_L_law 462 = .ok (.bipush 32, 2) := by decide +kernel
theorem d_L_law_464 : decode b_L_law 464 = .ok (.lshl, 1) := by decide +kernel
theorem d_L_law_465 : decode b_L_law 465 = .ok (.aload_n 0, 1) := by decide +kernel
theorem d_L_law_466 : decode b_L_law 466 = .ok (.iload 4, 2) := by decide +kernel
theorem d_L_law_468 : decode b_L_law 468 = .ok (.iconst 2, 1) := by decide +kernel
theorem d_L_law_469 : decode b_L_law 469 = .ok (.iadd, 1) := by decide +kernel
theorem d_L_law_470 : decode b_L_law 470 = .ok (.iaload, 1) := by decide +kernel
theorem d_L_law_471 : decode b_L_law 471 = .ok (.i2l, 1) := by decide +kernel
theorem d_L_law_472 : decode b_L_law 472 = .ok (.ldc2_w 92, 3) := by decide +kernel
theorem d_L_law_475 : decode b_L_law 475 = .ok (.land, 1) := by decide +kernel
theorem d_L_law_476 : decode b_L_law 476 = .ok (.lor, 1) := by decide +kernel
theorem d_L_law_477 : decode b_L_law 477 = .ok (.invokevirtual 97, 3) := by decide +kernel
theorem d_L_law_480 : decode b_L_law 480 = .ok (.istore 6, 2) := by decide +kernel
theorem d_L_law_482 : decode b_L_law 482 = .ok (.aload_n 2, 1) := by decide +kernel
theorem d_L_law_483 : decode b_L_law 483 = .ok (.invokevirtual 71, 3) := by decide +kernel
theorem d_L_law_486 : decode b_L_law 486 = .ok (.iload 5, 2) := by decide +kernel
theorem d_L_law_488 : decode b_L_law 488 = .ok (.if_icmp .eq 5, 3) := by decide +kernel
theorem d_L_law_493 : decode b_L_law 493 = .ok (.iload 5, 2) := by decide +kernel
theorem d_L_law_495 : decode b_L_law 495 = .ok (.ifCond .ne 15, 3) := by decide +kernel
theorem d_L_law_498 : decode b_L_law 498 = .ok (.aload_n 3, 1) := by decide +kernel
theorem d_L_law_499 : decode b_L_law 499 = .ok (.iconst 0, 1) := by decide +kernel
theorem d_L_law_500 : decode b_L_law 500 = .ok (.laload, 1) := by decide +kernel
theorem d_L_law_501 : decode b_L_law 501 = .ok (.iload 6, 2) := by decide +kernel
theorem d_L_law_503 : decode b_L_law 503 = .ok (.i2l, 1) := by decide +kernel
theorem d_L_law_504 : decode b_L_law 504 = .ok (.lcmp, 1) := by decide +kernel
theorem d_L_law_505 : decode b_L_law 505 = .ok (.ifCond .eq 5, 3) := by decide +kernel
theorem d_L_law_510 : decode b_L_law 510 = .ok (.goto 401, 3) := by decide +kernel
theorem d_L_law_513 : decode b_L_law 513 = .ok (.aload_n 1, 1) := by decide +kernel
theorem d_L_law_514 : decode b_L_law 514 = .ok (.aload_n 0, 1) := by decide +kernel
theorem d_L_law_515 : decode b_L_law 515 = .ok (.iload 4, 2) := by decide +kernel
theorem d_L_law_517 : decode b_L_law 517 = .ok (.iconst 1, 1) := by decide +kernel
theorem d_L_law_518 : decode b_L_law 518 = .ok (.iadd, 1) := by decide +kernel
theorem d_L_law_519 : decode b_L_law 519 = .ok (.iaload, 1) := by decide +kernel
theorem d_L_law_520 : decode b_L_law 520 = .ok (.aload_n 0, 1) := by decide +kernel
theorem d_L_law_521 : decode b_L_law 521 = .ok (.iload 4, 2) := by decide +kernel
theorem d_L_law_523 : decode b_L_law 523 = .ok (.iconst 2, 1) := by decide +kernel
theorem d_L_law_524 : decode b_L_law 524 = .ok (.iadd, 1) := by decide +kernel
theorem d_L_law_525 : decode b_L_law 525 = .ok (.iaload, 1) := by decide +kernel
theorem d_L_law_526 : decode b_L_law 526 = .ok (.aload_n 3, 1) := by decide +kernel
theorem d_L_law_527 : decode b_L_law 527 = .ok (.invokestatic 98, 3) := by decide +kernel
theorem d_L_law_530 : decode b_L_law 530 = .ok (.istore 5, 2) := by decide +kernel
theorem d_L_law_532 : decode b_L_law 532 = .ok (.aload_n 2, 1) := by decide +kernel
theorem d_L_law_533 : decode b_L_law 533 = .ok (.aload_n 0, 1) := by decide +kernel
theorem d_L_law_534 : decode b_L_law 534 = .ok (.iload 4, 2) := by decide +kernel
theorem d_L_law_536 : decode b_L_law 536 = .ok (.iconst 1, 1) := by decide +kernel
theorem d_L_law_537 : decode b_L_law 537 = .ok (.iadd, 1) := by decide +kernel
theorem d_L_law_538 : decode b_L_law 538 = .ok (.iaload, 1) := by decide +kernel
theorem d_L_law_539 : decode b_L_law 539 = .ok (.aload_n 0, 1) := by decide +kernel
theorem d_L_law_540 : decode b_L_law 540 = .ok (.iload 4, 2) := by decide +kernel
theorem d_L_law_542 : decode b_L_law 542 = .ok (.iconst 2, 1) := by decide +kernel
theorem d_L_law_543 : decode b_L_law 543 = .ok (.iadd, 1) := by decide +kernel
theorem d_L_law_544 : decode b_L_law 544 = .ok (.iaload, 1) := by decide +kernel
theorem d_L_law_545 : decode b_L_law 545 = .ok (.invokevirtual 101, 3) := by decide +kernel
theorem d_L_law_548 : decode b_L_law 548 = .ok (.lstore 6, 2) := by decide +kernel
theorem d_L_law_550 : decode b_L_law 550 = .ok (.aload_n 2, 1) := by decide +kernel
theorem d_L_law_551 : decode b_L_law 551 = .ok (.invokevirtual 71, 3) := by decide +kernel
theorem d_L_law_554 : decode b_L_law 554 = .ok (.iload 5, 2) := by decide +kernel
theorem d_L_law_556 : decode b_L_law 556 = .ok (.if_icmp .eq 5, 3) := by decide +kernel
theorem d_L_law_561 : decode b_L_law 561 = .ok (.iload 5, 2) := by decide +kernel
theorem d_L_law_563 : decode b_L_law 563 = .ok (.ifCond .ne 14, 3) := by decide +kernel
theorem d_L_law_577 : decode b_L_law 577 = .ok (.goto 334, 3) := by decide +kernel
theorem d_L_law_580 : decode b_L_law 580 = .ok (.aload_n 1, 1) := by decide +kernel
theorem d_L_law_581 : decode b_L_law 581 = .ok (.invokevirtual 102, 3) := by decide +kernel
theorem d_L_law_584 : decode b_L_law 584 = .ok (.aload_n 2, 1) := by decide +kernel
theorem d_L_law_585 : decode b_L_law 585 = .ok (.invokevirtual 105, 3) := by decide +kernel
theorem d_L_law_588 : decode b_L_law 588 = .ok (.if_icmp .eq 323, 3) := by decide +kernel
theorem d_L_law_593 : decode b_L_law 593 = .ok (.aload_n 1, 1) := by decide +kernel
theorem d_L_law_594 : decode b_L_law 594 = .ok (.invokevirtual 106, 3) := by decide +kernel
theorem d_L_law_597 : decode b_L_law 597 = .ok (.aload_n 2, 1) := by decide +kernel
theorem d_L_law_598 : decode b_L_law 598 = .ok (.invokevirtual 109, 3) := by decide +kernel
theorem d_L_law_601 : decode b_L_law 601 = .ok (.if_icmp .eq 310, 3) := by decide +kernel
theorem d_L_law_606 : decode b_L_law 606 = .ok (.aload_n 1, 1) := by decide +kernel
theorem d_L_law_607 : decode b_L_law 607 = .ok (.invokevirtual 110, 3) := by decide +kernel
theorem d_L_law_610 : decode b_L_law 610 = .ok (.aload_n 2, 1) := by decide +kernel
theorem d_L_law_611 : decode b_L_law 611 = .ok (.invokevirtual 114, 3) := by decide +kernel
theorem d_L_law_614 : decode b_L_law 614 = .ok (.lcmp, 1) := by decide +kernel
theorem d_L_law_615 : decode b_L_law 615 = .ok (.ifCond .eq 296, 3) := by decide +kernel
theorem d_L_law_620 : decode b_L_law 620 = .ok (.aload_n 1, 1) := by decide +kernel
theorem d_L_law_621 : decode b_L_law 621 = .ok (.aload_n 0, 1) := by decide +kernel
theorem d_L_law_622 : decode b_L_law 622 = .ok (.iload 4, 2) := by decide +kernel
theorem d_L_law_624 : decode b_L_law 624 = .ok (.iconst 1, 1) := by decide +kernel
theorem d_L_law_625 : decode b_L_law 625 = .ok (.iadd, 1) := by decide +kernel
theorem d_L_law_626 : decode b_L_law 626 = .ok (.iaload, 1) := by decide +kernel
theorem d_L_law_627 : decode b_L_law 627 = .ok (.aload_n 3, 1) := by decide +kernel
theorem d_L_law_628 : decode b_L_law 628 = .ok (.invokestatic 115, 3) := by decide +kernel
theorem d_L_law_631 : decode b_L_law 631 = .ok (.istore 5, 2) := by decide +kernel
theorem d_L_law_633 : decode b_L_law 633 = .ok (.aload_n 2, 1) := by decide +kernel
theorem d_L_law_634 : decode b_L_law 634 = .ok (.aload_n 0, 1) := by decide +kernel
theorem d_L_law_635 : decode b_L_law 635 = .ok (.iload 4, 2) := by decide +kernel
theorem d_L_law_637 : decode b_L_law 637 = .ok (.iconst 1, 1) := by decide +kernel
theorem d_L_law_638 : decode b_L_law 638 = .ok (.iadd, 1) := by decide +kernel
theorem d_L_law_639 : decode b_L_law 639 = .ok (.iaload, 1) := by decide +kernel
theorem d_L_law_640 : decode b_L_law 640 = .ok (.invokevirtual 117, 3) := by decide +kernel
theorem d_L_law_643 : decode b_L_law 643 = .ok (.istore 6, 2) := by decide +kernel
theorem d_L_law_645 : decode b_L_law 645 = .ok (.aload_n 2, 1) := by decide +kernel
theorem d_L_law_646 : decode b_L_law 646 = .ok (.invokevirtual 71, 3) := by decide +kernel
theorem d_L_law_649 : decode b_L_law 649 = .ok (.iload 5, 2) := by decide +kernel
theorem d_L_law_651 : decode b_L_law 651 = .ok (.if_icmp .eq 5, 3) := by decide +kernel
theorem d_L_law_656 : decode b_L_law 656 = .ok (.iload 5, 2) := by decide +kernel
theorem d_L_law_658 : decode b_L_law 658 = .ok (.ifCond .ne 15, 3) := by decide +kernel
theorem d_L_law_673 : decode b_L_law 673 = .ok (.goto 238, 3) := by decide +kernel
theorem d_L_law_676 : decode b_L_law 676 = .ok (.aload_n 1, 1) := by decide +kernel
theorem d_L_law_677 : decode b_L_law 677 = .ok (.aload_n 0, 1) := by decide +kernel
theorem d_L_law_678 : decode b_L_law 678 = .ok (.iload 4, 2) := by decide +kernel
theorem d_L_law_680 : decode b_L_law 680 = .ok (.iconst 1, 1) := by decide +kernel
theorem d_L_law_681 : decode b_L_law 681 = .ok (.iadd, 1) := by decide +kernel
theorem d_L_law_682 : decode b_L_law 682 = .ok (.iaload, 1) := by decide +kernel
theorem d_L_law_683 : decode b_L_law 683 = .ok (.aload_n 0, 1) := by decide +kernel
theorem d_L_law_684 : decode b_L_law 684 = .ok (.iload 4, 2) := by decide +kernel
theorem d_L_law_686 : decode b_L_law 686 = .ok (.iconst 2, 1) := by decide +kernel
theorem d_L_law_687 : decode b_L_law 687 = .ok (.iadd, 1) := by decide +kernel
theorem d_L_law_688 : decode b_L_law 688 = .ok (.iaload, 1) := by decide +kernel
theorem d_L_law_689 : decode b_L_law 689 = .ok (.aload_n 3, 1) := by decide +kernel
theorem d_L_law_690 : decode b_L_law 690 = .ok (.invokestatic 118, 3) := by decide +kernel
theorem d_L_law_693 : decode b_L_law 693 = .ok (.istore 5, 2) := by decide +kernel
theorem d_L_law_695 : decode b_L_law 695 = .ok (.aload_n 2, 1) := by decide +kernel
theorem d_L_law_696 : decode b_L_law 696 = .ok (.aload_n 0, 1) := by decide +kernel
theorem d_L_law_697 : decode b_L_law 697 = .ok (.iload 4, 2) := by decide +kernel
theorem d_L_law_699 : decode b_L_law 699 = .ok (.iconst 1, 1) := by decide +kernel
theorem d_L_law_700 : decode b_L_law 700 = .ok (.iadd, 1) := by decide +kernel
theorem d_L_law_701 : decode b_L_law 701 = .ok (.iaload, 1) := by decide +kernel
theorem d_L_law_702 : decode b_L_law 702 = .ok (.aload_n 0, 1) := by decide +kernel
theorem d_L_law_703 : decode b_L_law 703 = .ok (.iload 4, 2) := by decide +kernel
theorem d_L_law_705 : decode b_L_law 705 = .ok (.iconst 2, 1) := by decide +kernel
theorem d_L_law_706 : decode b_L_law 706 = .ok (.iadd, 1) := by decide +kernel
theorem d_L_law_707 : decode b_L_law 707 = .ok (.iaload, 1) := by decide +kernel
theorem d_L_law_708 : decode b_L_law 708 = .ok (.invokevirtual 120, 3) := by decide +kernel
theorem d_L_law_711 : decode b_L_law 711 = .ok (.lstore 6, 2) := by decide +kernel
theorem d_L_law_713 : decode b_L_law 713 = .ok (.aload_n 2, 1) := by decide +kernel
theorem d_L_law_714 : decode b_L_law 714 = .ok (.invokevirtual 71, 3) := by decide +kernel
theorem d_L_law_717 : decode b_L_law 717 = .ok (.iload 5, 2) := by decide +kernel
theorem d_L_law_719 : decode b_L_law 719 = .ok (.if_icmp .eq 5, 3) := by decide +kernel
theorem d_L_law_724 : decode b_L_law 724 = .ok (.iload 5, 2) := by decide +kernel
theorem d_L_law_726 : decode b_L_law 726 = .ok (.ifCond .ne 14, 3) := by decide +kernel
theorem d_L_law_740 : decode b_L_law 740 = .ok (.goto 171, 3) := by decide +kernel
theorem d_L_law_743 : decode b_L_law 743 = .ok (.aload_n 1, 1) := by decide +kernel
theorem d_L_law_744 : decode b_L_law 744 = .ok (.aload_n 0, 1) := by decide +kernel
theorem d_L_law_745 : decode b_L_law 745 = .ok (.iload 4, 2) := by decide +kernel
theorem d_L_law_747 : decode b_L_law 747 = .ok (.iconst 1, 1) := by decide +kernel
theorem d_L_law_748 : decode b_L_law 748 = .ok (.iadd, 1) := by decide +kernel
theorem d_L_law_749 : decode b_L_law 749 = .ok (.iaload, 1) := by decide +kernel
theorem d_L_law_750 : decode b_L_law 750 = .ok (.aload_n 0, 1) := by decide +kernel
theorem d_L_law_751 : decode b_L_law 751 = .ok (.iload 4, 2) := by decide +kernel
theorem d_L_law_753 : decode b_L_law 753 = .ok (.iconst 2, 1) := by decide +kernel
theorem d_L_law_754 : decode b_L_law 754 = .ok (.iadd, 1) := by decide +kernel
theorem d_L_law_755 : decode b_L_law 755 = .ok (.iaload, 1) := by decide +kernel
theorem d_L_law_756 : decode b_L_law 756 = .ok (.aload_n 3, 1) := by decide +kernel
theorem d_L_law_757 : decode b_L_law 757 = .ok (.invokestatic 121, 3) := by decide +kernel
theorem d_L_law_760 : decode b_L_law 760 = .ok (.istore 5, 2) := by decide +kernel
theorem d_L_law_762 : decode b_L_law 762 = .ok (.aload_n 2, 1) := by decide +kernel
theorem d_L_law_763 : decode b_L_law 763 = .ok (.aload_n 0, 1) := by decide +kernel
theorem d_L_law_764 : decode b_L_law 764 = .ok (.iload 4, 2) := by decide +kernel
theorem d_L_law_766 : decode b_L_law 766 = .ok (.iconst 1, 1) := by decide +kernel
theorem d_L_law_767 : decode b_L_law 767 = .ok (.iadd, 1) := by decide +kernel
theorem d_L_law_768 : decode b_L_law 768 = .ok (.iaload, 1) := by decide +kernel
theorem d_L_law_769 : decode b_L_law 769 = .ok (.aload_n 0, 1) := by decide +kernel
theorem d_L_law_770 : decode b_L_law 770 = .ok (.iload 4, 2) := by decide +kernel
theorem d_L_law_772 : decode b_L_law 772 = .ok (.iconst 2, 1) := by decide +kernel
theorem d_L_law_773 : decode b_L_law 773 = .ok (.iadd, 1) := by decide +kernel
theorem d_L_law_774 : decode b_L_law 774 = .ok (.iaload, 1) := by decide +kernel
theorem d_L_law_775 : decode b_L_law 775 = .ok (.invokevirtual 123, 3) := by decide +kernel
theorem d_L_law_778 : decode b_L_law 778 = .ok (.istore 6, 2) := by decide +kernel
theorem d_L_law_780 : decode b_L_law 780 = .ok (.aload_n 2, 1) := by decide +kernel
theorem d_L_law_781 : decode b_L_law 781 = .ok (.invokevirtual 71, 3) := by decide +kernel
theorem d_L_law_784 : decode b_L_law 784 = .ok (.iload 5, 2) := by decide +kernel
theorem d_L_law_786 : decode b_L_law 786 = .ok (.if_icmp .eq 5, 3) := by decide +kernel
theorem d_L_law_791 : decode b_L_law 791 = .ok (.iload 5, 2) := by decide +kernel
theorem d_L_law_793 : decode b_L_law 793 = .ok (.ifCond .ne 15, 3) := by decide +kernel
theorem d_L_law_808 : decode b_L_law 808 = .ok (.goto 103, 3) := by decide +kernel
theorem d_L_law_811 : decode b_L_law 811 = .ok (.aload_n 1, 1) := by decide +kernel
theorem d_L_law_812 : decode b_L_law 812 = .ok (.aload_n 0, 1) := by decide +kernel
theorem d_L_law_813 : decode b_L_law 813 = .ok (.iload 4, 2) := by decide +kernel
theorem d_L_law_815 : decode b_L_law 815 = .ok (.iconst 1, 1) := by decide +kernel
theorem d_L_law_816 : decode b_L_law 816 = .ok (.iadd, 1) := by decide +kernel
theorem d_L_law_817 : decode b_L_law 817 = .ok (.iaload, 1) := by decide +kernel
theorem d_L_law_818 : decode b_L_law 818 = .ok (.aload_n 3, 1) := by decide +kernel
theorem d_L_law_819 : decode b_L_law 819 = .ok (.invokestatic 124, 3) := by decide +kernel
theorem d_L_law_822 : decode b_L_law 822 = .ok (.istore 5, 2) := by decide +kernel
theorem d_L_law_824 : decode b_L_law 824 = .ok (.aload_n 2, 1) := by decide +kernel
theorem d_L_law_825 : decode b_L_law 825 = .ok (.aload_n 0, 1) := by decide +kernel
theorem d_L_law_826 : decode b_L_law 826 = .ok (.iload 4, 2) := by decide +kernel
theorem d_L_law_828 : decode b_L_law 828 = .ok (.iconst 1, 1) := by decide +kernel
theorem d_L_law_829 : decode b_L_law 829 = .ok (.iadd, 1) := by decide +kernel
theorem d_L_law_830 : decode b_L_law 830 = .ok (.iaload, 1) := by decide +kernel
theorem d_L_law_831 : decode b_L_law 831 = .ok (.invokevirtual 126, 3) := by decide +kernel
theorem d_L_law_834 : decode b_L_law 834 = .ok (.istore 6, 2) := by decide +kernel
theorem d_L_law_836 : decode b_L_law 836 = .ok (.aload_n 2, 1) := by decide +kernel
theorem d_L_law_837 : decode b_L_law 837 = .ok (.invokevirtual 71, 3) := by decide +kernel
theorem d_L_law_840 : decode b_L_law 840 = .ok (.iload 5, 2) := by decide +kernel
theorem d_L_law_842 : decode b_L_law 842 = .ok (.if_icmp .eq 5, 3) := by decide +kernel
theorem d_L_law_847 : decode b_L_law 847 = .ok (.iload 5, 2) := by decide +kernel
theorem d_L_law_849 : decode b_L_law 849 = .ok (.ifCond .ne 15, 3) := by decide +kernel
theorem d_L_law_864 : decode b_L_law 864 = .ok (.goto 47, 3) := by decide +kernel
theorem d_L_law_867 : decode b_L_law 867 = .ok (.aload_n 1, 1) := by decide +kernel
theorem d_L_law_868 : decode b_L_law 868 = .ok (.aload_n 3, 1) := by decide +kernel
theorem d_L_law_869 : decode b_L_law 869 = .ok (.invokestatic 127, 3) := by decide +kernel
theorem d_L_law_872 : decode b_L_law 872 = .ok (.istore 5, 2) := by decide +kernel
theorem d_L_law_874 : decode b_L_law 874 = .ok (.aload_n 2, 1) := by decide +kernel
theorem d_L_law_875 : decode b_L_law 875 = .ok (.invokevirtual 129, 3) := by decide +kernel
theorem d_L_law_878 : decode b_L_law 878 = .ok (.istore 6, 2) := by decide +kernel
theorem d_L_law_880 : decode b_L_law 880 = .ok (.aload_n 2, 1) := by decide +kernel
theorem d_L_law_881 : decode b_L_law 881 = .ok (.invokevirtual 71, 3) := by decide +kernel
theorem d_L_law_884 : decode b_L_law 884 = .ok (.iload 5, 2) := by decide +kernel
theorem d_L_law_886 : decode b_L_law 886 = .ok (.if_icmp .eq 5, 3) := by decide +kernel
theorem d_L_law_891 : decode b_L_law 891 = .ok (.iload 5, 2) := by decide +kernel
theorem d_L_law_893 : decode b_L_law 893 = .ok (.ifCond .ne 15, 3) := by decide +kernel
theorem d_L_law_908 : decode b_L_law 908 = .ok (.goto 3, 3) := by decide +kernel
theorem d_L_law_911 : decode b_L_law 911 = .ok (.iinc 4 6, 3) := by decide +kernel
theorem d_L_law_914 : decode b_L_law 914 = .ok (.goto (-891), 3) := by decide +kernel
theorem d_L_law_917 : decode b_L_law 917 = .ok (.iconst 1, 1) := by decide +kernel
theorem d_L_law_918 : decode b_L_law 918 = .ok (.ireturn, 1) := by decide +kernel
